section
-- ===== PART A: goes FIRST, ahead of the names: the tables' words, and 'selects' of the private methods out of them =====
/-- a private method of a class that the tables say can be made, by its rows of tables_1 -/
def lw_okq (q : MethodName × Nat) : Prop := (q.1.cls ≠ "java/lang/invoke/MethodHandle" ∧ q.1.cls ≠ "java/lang/invoke/VarHandle") ∧ Cond.instantiable q.1.cls q.2 ∈ tables_1 ∧ Cond.privateMethod q.1 ∈ tables_1 ∧ Cond.instanceMethod q.1 ∈ tables_1
theorem lw_p0 : lw_okq (⟨"TwoFliers", "found", "(I)I"⟩, 16) := ⟨⟨by decide +kernel, by decide +kernel⟩, List.mem_of_getElem? (i := 15) (by decide +kernel), List.mem_of_getElem? (i := 248) (by decide +kernel), List.mem_of_getElem? (i := 249) (by decide +kernel)⟩
theorem lw_p1 : lw_okq (⟨"TwoFliers", "renew", "(II)V"⟩, 16) := ⟨⟨by decide +kernel, by decide +kernel⟩, List.mem_of_getElem? (i := 15) (by decide +kernel), List.mem_of_getElem? (i := 252) (by decide +kernel), List.mem_of_getElem? (i := 253) (by decide +kernel)⟩
theorem lw_p2 : lw_okq (⟨"TwoFliers", "barredPlace", "(II)I"⟩, 16) := ⟨⟨by decide +kernel, by decide +kernel⟩, List.mem_of_getElem? (i := 15) (by decide +kernel), List.mem_of_getElem? (i := 260) (by decide +kernel), List.mem_of_getElem? (i := 261) (by decide +kernel)⟩
theorem lw_p3 : lw_okq (⟨"TwoFliers$Reader", "skipBlanks", "()V"⟩, 6) := ⟨⟨by decide +kernel, by decide +kernel⟩, List.mem_of_getElem? (i := 140) (by decide +kernel), List.mem_of_getElem? (i := 344) (by decide +kernel), List.mem_of_getElem? (i := 345) (by decide +kernel)⟩
theorem lw_p4 : lw_okq (⟨"TwoFliers$Reader", "readItem", "()V"⟩, 6) := ⟨⟨by decide +kernel, by decide +kernel⟩, List.mem_of_getElem? (i := 140) (by decide +kernel), List.mem_of_getElem? (i := 348) (by decide +kernel), List.mem_of_getElem? (i := 349) (by decide +kernel)⟩
theorem lw_p5 : lw_okq (⟨"TwoFliers$Reader", "take", "(I)V"⟩, 6) := ⟨⟨by decide +kernel, by decide +kernel⟩, List.mem_of_getElem? (i := 140) (by decide +kernel), List.mem_of_getElem? (i := 352) (by decide +kernel), List.mem_of_getElem? (i := 353) (by decide +kernel)⟩
theorem lw_p6 : lw_okq (⟨"TwoFliers$Reader", "takeNumber", "(I)I"⟩, 6) := ⟨⟨by decide +kernel, by decide +kernel⟩, List.mem_of_getElem? (i := 140) (by decide +kernel), List.mem_of_getElem? (i := 356) (by decide +kernel), List.mem_of_getElem? (i := 357) (by decide +kernel)⟩
theorem lw_p7 : lw_okq (⟨"TwoFliers$Reader", "takeFigure", "(I)I"⟩, 6) := ⟨⟨by decide +kernel, by decide +kernel⟩, List.mem_of_getElem? (i := 140) (by decide +kernel), List.mem_of_getElem? (i := 360) (by decide +kernel), List.mem_of_getElem? (i := 361) (by decide +kernel)⟩
theorem lw_p8 : lw_okq (⟨"TwoFliers$Reader", "isFigure", "(I)Z"⟩, 6) := ⟨⟨by decide +kernel, by decide +kernel⟩, List.mem_of_getElem? (i := 140) (by decide +kernel), List.mem_of_getElem? (i := 364) (by decide +kernel), List.mem_of_getElem? (i := 365) (by decide +kernel)⟩
theorem lw_p9 : lw_okq (⟨"TwoFliers$Reader", "readRound", "()V"⟩, 6) := ⟨⟨by decide +kernel, by decide +kernel⟩, List.mem_of_getElem? (i := 140) (by decide +kernel), List.mem_of_getElem? (i := 368) (by decide +kernel), List.mem_of_getElem? (i := 369) (by decide +kernel)⟩
theorem lw_p10 : lw_okq (⟨"TwoFliers$Reader", "takeCell", "()I"⟩, 6) := ⟨⟨by decide +kernel, by decide +kernel⟩, List.mem_of_getElem? (i := 140) (by decide +kernel), List.mem_of_getElem? (i := 372) (by decide +kernel), List.mem_of_getElem? (i := 373) (by decide +kernel)⟩
theorem lw_p11 : lw_okq (⟨"TwoFliers$Reader", "readLine", "()V"⟩, 6) := ⟨⟨by decide +kernel, by decide +kernel⟩, List.mem_of_getElem? (i := 140) (by decide +kernel), List.mem_of_getElem? (i := 386) (by decide +kernel), List.mem_of_getElem? (i := 387) (by decide +kernel)⟩
theorem lw_p12 : lw_okq (⟨"TwoFliers", "isMissing", "(I)Z"⟩, 16) := ⟨⟨by decide +kernel, by decide +kernel⟩, List.mem_of_getElem? (i := 15) (by decide +kernel), List.mem_of_getElem? (i := 405) (by decide +kernel), List.mem_of_getElem? (i := 406) (by decide +kernel)⟩
theorem lw_p13 : lw_okq (⟨"TwoFliers$Sign", "cellsSeen", "()I"⟩, 5) := ⟨⟨by decide +kernel, by decide +kernel⟩, List.mem_of_getElem? (i := 69) (by decide +kernel), List.mem_of_getElem? (i := 475) (by decide +kernel), List.mem_of_getElem? (i := 476) (by decide +kernel)⟩
theorem lw_p14 : lw_okq (⟨"TwoFliers$Sign", "saw", "(I)Z"⟩, 5) := ⟨⟨by decide +kernel, by decide +kernel⟩, List.mem_of_getElem? (i := 69) (by decide +kernel), List.mem_of_getElem? (i := 479) (by decide +kernel), List.mem_of_getElem? (i := 480) (by decide +kernel)⟩
theorem lw_p15 : lw_okq (⟨"TwoFliers$Sign", "cellsOfFullWeight", "()I"⟩, 5) := ⟨⟨by decide +kernel, by decide +kernel⟩, List.mem_of_getElem? (i := 69) (by decide +kernel), List.mem_of_getElem? (i := 489) (by decide +kernel), List.mem_of_getElem? (i := 490) (by decide +kernel)⟩
def lw_privs_1 : List (MethodName × Nat) := [(⟨"TwoFliers", "found", "(I)I"⟩, 16), (⟨"TwoFliers", "renew", "(II)V"⟩, 16), (⟨"TwoFliers", "barredPlace", "(II)I"⟩, 16), (⟨"TwoFliers$Reader", "skipBlanks", "()V"⟩, 6), (⟨"TwoFliers$Reader", "readItem", "()V"⟩, 6), (⟨"TwoFliers$Reader", "take", "(I)V"⟩, 6), (⟨"TwoFliers$Reader", "takeNumber", "(I)I"⟩, 6), (⟨"TwoFliers$Reader", "takeFigure", "(I)I"⟩, 6), (⟨"TwoFliers$Reader", "isFigure", "(I)Z"⟩, 6), (⟨"TwoFliers$Reader", "readRound", "()V"⟩, 6), (⟨"TwoFliers$Reader", "takeCell", "()I"⟩, 6), (⟨"TwoFliers$Reader", "readLine", "()V"⟩, 6), (⟨"TwoFliers", "isMissing", "(I)Z"⟩, 16), (⟨"TwoFliers$Sign", "cellsSeen", "()I"⟩, 5), (⟨"TwoFliers$Sign", "saw", "(I)Z"⟩, 5), (⟨"TwoFliers$Sign", "cellsOfFullWeight", "()I"⟩, 5)]
theorem lw_r1 : ∀ q ∈ lw_privs_1, lw_okq q := List.forall_mem_cons.mpr ⟨lw_p0, List.forall_mem_cons.mpr ⟨lw_p1, List.forall_mem_cons.mpr ⟨lw_p2, List.forall_mem_cons.mpr ⟨lw_p3, List.forall_mem_cons.mpr ⟨lw_p4, List.forall_mem_cons.mpr ⟨lw_p5, List.forall_mem_cons.mpr ⟨lw_p6, List.forall_mem_cons.mpr ⟨lw_p7, List.forall_mem_cons.mpr ⟨lw_p8, List.forall_mem_cons.mpr ⟨lw_p9, List.forall_mem_cons.mpr ⟨lw_p10, List.forall_mem_cons.mpr ⟨lw_p11, List.forall_mem_cons.mpr ⟨lw_p12, List.forall_mem_cons.mpr ⟨lw_p13, List.forall_mem_cons.mpr ⟨lw_p14, List.forall_mem_cons.mpr ⟨lw_p15, fun _ h => absurd h List.not_mem_nil⟩⟩⟩⟩⟩⟩⟩⟩⟩⟩⟩⟩⟩⟩⟩⟩
theorem lw_p16 : lw_okq (⟨"TwoFliers", "weighed", "(I)I"⟩, 16) := ⟨⟨by decide +kernel, by decide +kernel⟩, List.mem_of_getElem? (i := 15) (by decide +kernel), List.mem_of_getElem? (i := 529) (by decide +kernel), List.mem_of_getElem? (i := 530) (by decide +kernel)⟩
theorem lw_p17 : lw_okq (⟨"TwoFliers", "barred", "(II)I"⟩, 16) := ⟨⟨by decide +kernel, by decide +kernel⟩, List.mem_of_getElem? (i := 15) (by decide +kernel), List.mem_of_getElem? (i := 533) (by decide +kernel), List.mem_of_getElem? (i := 534) (by decide +kernel)⟩
theorem lw_p18 : lw_okq (⟨"TwoFliers$Odds", "weighFlight", "(III)J"⟩, 8) := ⟨⟨by decide +kernel, by decide +kernel⟩, List.mem_of_getElem? (i := 27) (by decide +kernel), List.mem_of_getElem? (i := 549) (by decide +kernel), List.mem_of_getElem? (i := 550) (by decide +kernel)⟩
theorem lw_p19 : lw_okq (⟨"TwoFliers$Odds", "weighByHour", "(II)V"⟩, 8) := ⟨⟨by decide +kernel, by decide +kernel⟩, List.mem_of_getElem? (i := 27) (by decide +kernel), List.mem_of_getElem? (i := 556) (by decide +kernel), List.mem_of_getElem? (i := 557) (by decide +kernel)⟩
theorem lw_p20 : lw_okq (⟨"TwoFliers$Odds", "weighsIn", "(II)Z"⟩, 8) := ⟨⟨by decide +kernel, by decide +kernel⟩, List.mem_of_getElem? (i := 27) (by decide +kernel), List.mem_of_getElem? (i := 560) (by decide +kernel), List.mem_of_getElem? (i := 561) (by decide +kernel)⟩
theorem lw_p21 : lw_okq (⟨"TwoFliers$Odds", "keepOnly", "(I)V"⟩, 8) := ⟨⟨by decide +kernel, by decide +kernel⟩, List.mem_of_getElem? (i := 27) (by decide +kernel), List.mem_of_getElem? (i := 570) (by decide +kernel), List.mem_of_getElem? (i := 571) (by decide +kernel)⟩
theorem lw_p22 : lw_okq (⟨"TwoFliers$Odds", "land", "(II)J"⟩, 8) := ⟨⟨by decide +kernel, by decide +kernel⟩, List.mem_of_getElem? (i := 27) (by decide +kernel), List.mem_of_getElem? (i := 574) (by decide +kernel), List.mem_of_getElem? (i := 575) (by decide +kernel)⟩
theorem lw_p23 : lw_okq (⟨"TwoFliers$Odds", "weightByEnd", "(II)J"⟩, 8) := ⟨⟨by decide +kernel, by decide +kernel⟩, List.mem_of_getElem? (i := 27) (by decide +kernel), List.mem_of_getElem? (i := 578) (by decide +kernel), List.mem_of_getElem? (i := 579) (by decide +kernel)⟩
theorem lw_p24 : lw_okq (⟨"TwoFliers$Odds", "weightAtLast", "(II)J"⟩, 8) := ⟨⟨by decide +kernel, by decide +kernel⟩, List.mem_of_getElem? (i := 27) (by decide +kernel), List.mem_of_getElem? (i := 583) (by decide +kernel), List.mem_of_getElem? (i := 584) (by decide +kernel)⟩
theorem lw_p25 : lw_okq (⟨"TwoFliers$Odds", "spread", "(I)V"⟩, 8) := ⟨⟨by decide +kernel, by decide +kernel⟩, List.mem_of_getElem? (i := 27) (by decide +kernel), List.mem_of_getElem? (i := 587) (by decide +kernel), List.mem_of_getElem? (i := 588) (by decide +kernel)⟩
theorem lw_p26 : lw_okq (⟨"TwoFliers$Odds", "weighText", "([II)J"⟩, 8) := ⟨⟨by decide +kernel, by decide +kernel⟩, List.mem_of_getElem? (i := 27) (by decide +kernel), List.mem_of_getElem? (i := 599) (by decide +kernel), List.mem_of_getElem? (i := 600) (by decide +kernel)⟩
theorem lw_p27 : lw_okq (⟨"TwoFliers", "fraction", "(JJ)V"⟩, 16) := ⟨⟨by decide +kernel, by decide +kernel⟩, List.mem_of_getElem? (i := 15) (by decide +kernel), List.mem_of_getElem? (i := 603) (by decide +kernel), List.mem_of_getElem? (i := 604) (by decide +kernel)⟩
theorem lw_p28 : lw_okq (⟨"TwoFliers", "storiesThere", "()I"⟩, 16) := ⟨⟨by decide +kernel, by decide +kernel⟩, List.mem_of_getElem? (i := 15) (by decide +kernel), List.mem_of_getElem? (i := 782) (by decide +kernel), List.mem_of_getElem? (i := 783) (by decide +kernel)⟩
theorem lw_p29 : lw_okq (⟨"TwoFliersModel", "meets", "(I)I"⟩, 30) := ⟨⟨by decide +kernel, by decide +kernel⟩, List.mem_of_getElem? (i := 819) (by decide +kernel), List.mem_of_getElem? (i := 926) (by decide +kernel), List.mem_of_getElem? (i := 927) (by decide +kernel)⟩
theorem lw_p30 : lw_okq (⟨"TwoFliersModel", "askedRow", "(I)I"⟩, 30) := ⟨⟨by decide +kernel, by decide +kernel⟩, List.mem_of_getElem? (i := 819) (by decide +kernel), List.mem_of_getElem? (i := 934) (by decide +kernel), List.mem_of_getElem? (i := 935) (by decide +kernel)⟩
theorem lw_p31 : lw_okq (⟨"TwoFliersModel", "rowAt", "(II)I"⟩, 30) := ⟨⟨by decide +kernel, by decide +kernel⟩, List.mem_of_getElem? (i := 819) (by decide +kernel), List.mem_of_getElem? (i := 938) (by decide +kernel), List.mem_of_getElem? (i := 939) (by decide +kernel)⟩
def lw_privs_2 : List (MethodName × Nat) := [(⟨"TwoFliers", "weighed", "(I)I"⟩, 16), (⟨"TwoFliers", "barred", "(II)I"⟩, 16), (⟨"TwoFliers$Odds", "weighFlight", "(III)J"⟩, 8), (⟨"TwoFliers$Odds", "weighByHour", "(II)V"⟩, 8), (⟨"TwoFliers$Odds", "weighsIn", "(II)Z"⟩, 8), (⟨"TwoFliers$Odds", "keepOnly", "(I)V"⟩, 8), (⟨"TwoFliers$Odds", "land", "(II)J"⟩, 8), (⟨"TwoFliers$Odds", "weightByEnd", "(II)J"⟩, 8), (⟨"TwoFliers$Odds", "weightAtLast", "(II)J"⟩, 8), (⟨"TwoFliers$Odds", "spread", "(I)V"⟩, 8), (⟨"TwoFliers$Odds", "weighText", "([II)J"⟩, 8), (⟨"TwoFliers", "fraction", "(JJ)V"⟩, 16), (⟨"TwoFliers", "storiesThere", "()I"⟩, 16), (⟨"TwoFliersModel", "meets", "(I)I"⟩, 30), (⟨"TwoFliersModel", "askedRow", "(I)I"⟩, 30), (⟨"TwoFliersModel", "rowAt", "(II)I"⟩, 30)]
theorem lw_r2 : ∀ q ∈ lw_privs_2, lw_okq q := List.forall_mem_cons.mpr ⟨lw_p16, List.forall_mem_cons.mpr ⟨lw_p17, List.forall_mem_cons.mpr ⟨lw_p18, List.forall_mem_cons.mpr ⟨lw_p19, List.forall_mem_cons.mpr ⟨lw_p20, List.forall_mem_cons.mpr ⟨lw_p21, List.forall_mem_cons.mpr ⟨lw_p22, List.forall_mem_cons.mpr ⟨lw_p23, List.forall_mem_cons.mpr ⟨lw_p24, List.forall_mem_cons.mpr ⟨lw_p25, List.forall_mem_cons.mpr ⟨lw_p26, List.forall_mem_cons.mpr ⟨lw_p27, List.forall_mem_cons.mpr ⟨lw_p28, List.forall_mem_cons.mpr ⟨lw_p29, List.forall_mem_cons.mpr ⟨lw_p30, List.forall_mem_cons.mpr ⟨lw_p31, fun _ h => absurd h List.not_mem_nil⟩⟩⟩⟩⟩⟩⟩⟩⟩⟩⟩⟩⟩⟩⟩⟩
theorem lw_p32 : lw_okq (⟨"TwoFliersModel", "ask", "(II)I"⟩, 30) := ⟨⟨by decide +kernel, by decide +kernel⟩, List.mem_of_getElem? (i := 819) (by decide +kernel), List.mem_of_getElem? (i := 942) (by decide +kernel), List.mem_of_getElem? (i := 943) (by decide +kernel)⟩
theorem lw_p33 : lw_okq (⟨"TwoFliersModel", "askedText", "(I)I"⟩, 30) := ⟨⟨by decide +kernel, by decide +kernel⟩, List.mem_of_getElem? (i := 819) (by decide +kernel), List.mem_of_getElem? (i := 974) (by decide +kernel), List.mem_of_getElem? (i := 975) (by decide +kernel)⟩
theorem lw_p34 : lw_okq (⟨"TwoFliersModel", "hours", "()I"⟩, 30) := ⟨⟨by decide +kernel, by decide +kernel⟩, List.mem_of_getElem? (i := 819) (by decide +kernel), List.mem_of_getElem? (i := 1005) (by decide +kernel), List.mem_of_getElem? (i := 1006) (by decide +kernel)⟩
theorem lw_p35 : lw_okq (⟨"TwoFliersModel", "courseOf", "(I)I"⟩, 30) := ⟨⟨by decide +kernel, by decide +kernel⟩, List.mem_of_getElem? (i := 819) (by decide +kernel), List.mem_of_getElem? (i := 1013) (by decide +kernel), List.mem_of_getElem? (i := 1014) (by decide +kernel)⟩
theorem lw_p36 : lw_okq (⟨"TwoFliersModel", "goesOn", "(I)I"⟩, 30) := ⟨⟨by decide +kernel, by decide +kernel⟩, List.mem_of_getElem? (i := 819) (by decide +kernel), List.mem_of_getElem? (i := 1025) (by decide +kernel), List.mem_of_getElem? (i := 1026) (by decide +kernel)⟩
theorem lw_p37 : lw_okq (⟨"TwoFliersModel", "here", "(I)I"⟩, 30) := ⟨⟨by decide +kernel, by decide +kernel⟩, List.mem_of_getElem? (i := 819) (by decide +kernel), List.mem_of_getElem? (i := 1029) (by decide +kernel), List.mem_of_getElem? (i := 1030) (by decide +kernel)⟩
theorem lw_p38 : lw_okq (⟨"TwoFliersModel", "readsItem", "(I)Z"⟩, 30) := ⟨⟨by decide +kernel, by decide +kernel⟩, List.mem_of_getElem? (i := 819) (by decide +kernel), List.mem_of_getElem? (i := 1033) (by decide +kernel), List.mem_of_getElem? (i := 1034) (by decide +kernel)⟩
theorem lw_p39 : lw_okq (⟨"TwoFliersModel", "reads", "(II)Z"⟩, 30) := ⟨⟨by decide +kernel, by decide +kernel⟩, List.mem_of_getElem? (i := 819) (by decide +kernel), List.mem_of_getElem? (i := 1037) (by decide +kernel), List.mem_of_getElem? (i := 1038) (by decide +kernel)⟩
theorem lw_p40 : lw_okq (⟨"TwoFliersModel", "readsNumber", "(III)Z"⟩, 30) := ⟨⟨by decide +kernel, by decide +kernel⟩, List.mem_of_getElem? (i := 819) (by decide +kernel), List.mem_of_getElem? (i := 1041) (by decide +kernel), List.mem_of_getElem? (i := 1042) (by decide +kernel)⟩
theorem lw_p41 : lw_okq (⟨"TwoFliersModel", "newSign", "(IIII)I"⟩, 30) := ⟨⟨by decide +kernel, by decide +kernel⟩, List.mem_of_getElem? (i := 819) (by decide +kernel), List.mem_of_getElem? (i := 1063) (by decide +kernel), List.mem_of_getElem? (i := 1064) (by decide +kernel)⟩
theorem lw_p42 : lw_okq (⟨"TwoFliersModel", "isSign", "(I)Z"⟩, 30) := ⟨⟨by decide +kernel, by decide +kernel⟩, List.mem_of_getElem? (i := 819) (by decide +kernel), List.mem_of_getElem? (i := 1075) (by decide +kernel), List.mem_of_getElem? (i := 1076) (by decide +kernel)⟩
theorem lw_p43 : lw_okq (⟨"TwoFliersModel", "tell", "(II)I"⟩, 30) := ⟨⟨by decide +kernel, by decide +kernel⟩, List.mem_of_getElem? (i := 819) (by decide +kernel), List.mem_of_getElem? (i := 1079) (by decide +kernel), List.mem_of_getElem? (i := 1080) (by decide +kernel)⟩
theorem lw_p44 : lw_okq (⟨"TwoFliersModel", "weight", "(II)I"⟩, 30) := ⟨⟨by decide +kernel, by decide +kernel⟩, List.mem_of_getElem? (i := 819) (by decide +kernel), List.mem_of_getElem? (i := 1091) (by decide +kernel), List.mem_of_getElem? (i := 1092) (by decide +kernel)⟩
theorem lw_p45 : lw_okq (⟨"TwoFliersModel", "fullCells", "(I)I"⟩, 30) := ⟨⟨by decide +kernel, by decide +kernel⟩, List.mem_of_getElem? (i := 819) (by decide +kernel), List.mem_of_getElem? (i := 1115) (by decide +kernel), List.mem_of_getElem? (i := 1116) (by decide +kernel)⟩
theorem lw_p46 : lw_okq (⟨"TwoFliersModel", "weigh", "(I)I"⟩, 30) := ⟨⟨by decide +kernel, by decide +kernel⟩, List.mem_of_getElem? (i := 819) (by decide +kernel), List.mem_of_getElem? (i := 1123) (by decide +kernel), List.mem_of_getElem? (i := 1124) (by decide +kernel)⟩
theorem lw_p47 : lw_okq (⟨"TwoFliersModel", "askedStory", "(I)I"⟩, 30) := ⟨⟨by decide +kernel, by decide +kernel⟩, List.mem_of_getElem? (i := 819) (by decide +kernel), List.mem_of_getElem? (i := 1127) (by decide +kernel), List.mem_of_getElem? (i := 1128) (by decide +kernel)⟩
def lw_privs_3 : List (MethodName × Nat) := [(⟨"TwoFliersModel", "ask", "(II)I"⟩, 30), (⟨"TwoFliersModel", "askedText", "(I)I"⟩, 30), (⟨"TwoFliersModel", "hours", "()I"⟩, 30), (⟨"TwoFliersModel", "courseOf", "(I)I"⟩, 30), (⟨"TwoFliersModel", "goesOn", "(I)I"⟩, 30), (⟨"TwoFliersModel", "here", "(I)I"⟩, 30), (⟨"TwoFliersModel", "readsItem", "(I)Z"⟩, 30), (⟨"TwoFliersModel", "reads", "(II)Z"⟩, 30), (⟨"TwoFliersModel", "readsNumber", "(III)Z"⟩, 30), (⟨"TwoFliersModel", "newSign", "(IIII)I"⟩, 30), (⟨"TwoFliersModel", "isSign", "(I)Z"⟩, 30), (⟨"TwoFliersModel", "tell", "(II)I"⟩, 30), (⟨"TwoFliersModel", "weight", "(II)I"⟩, 30), (⟨"TwoFliersModel", "fullCells", "(I)I"⟩, 30), (⟨"TwoFliersModel", "weigh", "(I)I"⟩, 30), (⟨"TwoFliersModel", "askedStory", "(I)I"⟩, 30)]
theorem lw_r3 : ∀ q ∈ lw_privs_3, lw_okq q := List.forall_mem_cons.mpr ⟨lw_p32, List.forall_mem_cons.mpr ⟨lw_p33, List.forall_mem_cons.mpr ⟨lw_p34, List.forall_mem_cons.mpr ⟨lw_p35, List.forall_mem_cons.mpr ⟨lw_p36, List.forall_mem_cons.mpr ⟨lw_p37, List.forall_mem_cons.mpr ⟨lw_p38, List.forall_mem_cons.mpr ⟨lw_p39, List.forall_mem_cons.mpr ⟨lw_p40, List.forall_mem_cons.mpr ⟨lw_p41, List.forall_mem_cons.mpr ⟨lw_p42, List.forall_mem_cons.mpr ⟨lw_p43, List.forall_mem_cons.mpr ⟨lw_p44, List.forall_mem_cons.mpr ⟨lw_p45, List.forall_mem_cons.mpr ⟨lw_p46, List.forall_mem_cons.mpr ⟨lw_p47, fun _ h => absurd h List.not_mem_nil⟩⟩⟩⟩⟩⟩⟩⟩⟩⟩⟩⟩⟩⟩⟩⟩
theorem lw_p48 : lw_okq (⟨"TwoFliersModel", "counted", "()I"⟩, 30) := ⟨⟨by decide +kernel, by decide +kernel⟩, List.mem_of_getElem? (i := 819) (by decide +kernel), List.mem_of_getElem? (i := 1131) (by decide +kernel), List.mem_of_getElem? (i := 1132) (by decide +kernel)⟩
theorem lw_p49 : lw_okq (⟨"TwoFliersModel", "counts", "(I)Z"⟩, 30) := ⟨⟨by decide +kernel, by decide +kernel⟩, List.mem_of_getElem? (i := 819) (by decide +kernel), List.mem_of_getElem? (i := 1135) (by decide +kernel), List.mem_of_getElem? (i := 1136) (by decide +kernel)⟩
theorem lw_p50 : lw_okq (⟨"TwoFliersModel", "setEnding", "(I)V"⟩, 30) := ⟨⟨by decide +kernel, by decide +kernel⟩, List.mem_of_getElem? (i := 819) (by decide +kernel), List.mem_of_getElem? (i := 1139) (by decide +kernel), List.mem_of_getElem? (i := 1140) (by decide +kernel)⟩
theorem lw_p51 : lw_okq (⟨"TwoFliersModel", "setCome", "()V"⟩, 30) := ⟨⟨by decide +kernel, by decide +kernel⟩, List.mem_of_getElem? (i := 819) (by decide +kernel), List.mem_of_getElem? (i := 1143) (by decide +kernel), List.mem_of_getElem? (i := 1144) (by decide +kernel)⟩
theorem lw_p52 : lw_okq (⟨"TwoFliersModel", "hourWeight", "(II)J"⟩, 30) := ⟨⟨by decide +kernel, by decide +kernel⟩, List.mem_of_getElem? (i := 819) (by decide +kernel), List.mem_of_getElem? (i := 1147) (by decide +kernel), List.mem_of_getElem? (i := 1148) (by decide +kernel)⟩
theorem lw_p53 : lw_okq (⟨"TwoFliersModel", "endWeight", "(II)J"⟩, 30) := ⟨⟨by decide +kernel, by decide +kernel⟩, List.mem_of_getElem? (i := 819) (by decide +kernel), List.mem_of_getElem? (i := 1161) (by decide +kernel), List.mem_of_getElem? (i := 1162) (by decide +kernel)⟩
theorem lw_p54 : lw_okq (⟨"TwoFliersModel", "endOf", "(I)I"⟩, 30) := ⟨⟨by decide +kernel, by decide +kernel⟩, List.mem_of_getElem? (i := 819) (by decide +kernel), List.mem_of_getElem? (i := 1166) (by decide +kernel), List.mem_of_getElem? (i := 1167) (by decide +kernel)⟩
theorem lw_p55 : lw_okq (⟨"TwoFliersModel", "weightOf", "(I)J"⟩, 30) := ⟨⟨by decide +kernel, by decide +kernel⟩, List.mem_of_getElem? (i := 819) (by decide +kernel), List.mem_of_getElem? (i := 1170) (by decide +kernel), List.mem_of_getElem? (i := 1171) (by decide +kernel)⟩
theorem lw_p56 : lw_okq (⟨"TwoFliersModel", "part", "(JJI)I"⟩, 30) := ⟨⟨by decide +kernel, by decide +kernel⟩, List.mem_of_getElem? (i := 819) (by decide +kernel), List.mem_of_getElem? (i := 1175) (by decide +kernel), List.mem_of_getElem? (i := 1176) (by decide +kernel)⟩
theorem lw_p57 : lw_okq (⟨"TwoFliersModel", "mostOf", "()I"⟩, 30) := ⟨⟨by decide +kernel, by decide +kernel⟩, List.mem_of_getElem? (i := 819) (by decide +kernel), List.mem_of_getElem? (i := 1183) (by decide +kernel), List.mem_of_getElem? (i := 1184) (by decide +kernel)⟩
theorem lw_p58 : lw_okq (⟨"TwoFliersModel", "setRest", "()V"⟩, 30) := ⟨⟨by decide +kernel, by decide +kernel⟩, List.mem_of_getElem? (i := 819) (by decide +kernel), List.mem_of_getElem? (i := 1195) (by decide +kernel), List.mem_of_getElem? (i := 1196) (by decide +kernel)⟩
theorem lw_p59 : lw_okq (⟨"TwoFliersModel", "bare", "(I)J"⟩, 30) := ⟨⟨by decide +kernel, by decide +kernel⟩, List.mem_of_getElem? (i := 819) (by decide +kernel), List.mem_of_getElem? (i := 1226) (by decide +kernel), List.mem_of_getElem? (i := 1227) (by decide +kernel)⟩
theorem lw_p60 : lw_okq (⟨"TwoFliersModel", "dragOn", "(IIIJI)V"⟩, 30) := ⟨⟨by decide +kernel, by decide +kernel⟩, List.mem_of_getElem? (i := 819) (by decide +kernel), List.mem_of_getElem? (i := 1239) (by decide +kernel), List.mem_of_getElem? (i := 1240) (by decide +kernel)⟩
theorem lw_p61 : lw_okq (⟨"TwoFliersModel", "wasThere", "(II)Z"⟩, 30) := ⟨⟨by decide +kernel, by decide +kernel⟩, List.mem_of_getElem? (i := 819) (by decide +kernel), List.mem_of_getElem? (i := 1243) (by decide +kernel), List.mem_of_getElem? (i := 1244) (by decide +kernel)⟩
theorem lw_p62 : lw_okq (⟨"TwoFliersModel", "comesIn", "(II)Z"⟩, 30) := ⟨⟨by decide +kernel, by decide +kernel⟩, List.mem_of_getElem? (i := 819) (by decide +kernel), List.mem_of_getElem? (i := 1252) (by decide +kernel), List.mem_of_getElem? (i := 1253) (by decide +kernel)⟩
theorem lw_p63 : lw_okq (⟨"TwoFliersModel", "undoneSet", "()I"⟩, 30) := ⟨⟨by decide +kernel, by decide +kernel⟩, List.mem_of_getElem? (i := 819) (by decide +kernel), List.mem_of_getElem? (i := 1267) (by decide +kernel), List.mem_of_getElem? (i := 1268) (by decide +kernel)⟩
def lw_privs_4 : List (MethodName × Nat) := [(⟨"TwoFliersModel", "counted", "()I"⟩, 30), (⟨"TwoFliersModel", "counts", "(I)Z"⟩, 30), (⟨"TwoFliersModel", "setEnding", "(I)V"⟩, 30), (⟨"TwoFliersModel", "setCome", "()V"⟩, 30), (⟨"TwoFliersModel", "hourWeight", "(II)J"⟩, 30), (⟨"TwoFliersModel", "endWeight", "(II)J"⟩, 30), (⟨"TwoFliersModel", "endOf", "(I)I"⟩, 30), (⟨"TwoFliersModel", "weightOf", "(I)J"⟩, 30), (⟨"TwoFliersModel", "part", "(JJI)I"⟩, 30), (⟨"TwoFliersModel", "mostOf", "()I"⟩, 30), (⟨"TwoFliersModel", "setRest", "()V"⟩, 30), (⟨"TwoFliersModel", "bare", "(I)J"⟩, 30), (⟨"TwoFliersModel", "dragOn", "(IIIJI)V"⟩, 30), (⟨"TwoFliersModel", "wasThere", "(II)Z"⟩, 30), (⟨"TwoFliersModel", "comesIn", "(II)Z"⟩, 30), (⟨"TwoFliersModel", "undoneSet", "()I"⟩, 30)]
theorem lw_r4 : ∀ q ∈ lw_privs_4, lw_okq q := List.forall_mem_cons.mpr ⟨lw_p48, List.forall_mem_cons.mpr ⟨lw_p49, List.forall_mem_cons.mpr ⟨lw_p50, List.forall_mem_cons.mpr ⟨lw_p51, List.forall_mem_cons.mpr ⟨lw_p52, List.forall_mem_cons.mpr ⟨lw_p53, List.forall_mem_cons.mpr ⟨lw_p54, List.forall_mem_cons.mpr ⟨lw_p55, List.forall_mem_cons.mpr ⟨lw_p56, List.forall_mem_cons.mpr ⟨lw_p57, List.forall_mem_cons.mpr ⟨lw_p58, List.forall_mem_cons.mpr ⟨lw_p59, List.forall_mem_cons.mpr ⟨lw_p60, List.forall_mem_cons.mpr ⟨lw_p61, List.forall_mem_cons.mpr ⟨lw_p62, List.forall_mem_cons.mpr ⟨lw_p63, fun _ h => absurd h List.not_mem_nil⟩⟩⟩⟩⟩⟩⟩⟩⟩⟩⟩⟩⟩⟩⟩⟩
theorem lw_p64 : lw_okq (⟨"TwoFliersModel", "isImage", "(I)Z"⟩, 30) := ⟨⟨by decide +kernel, by decide +kernel⟩, List.mem_of_getElem? (i := 819) (by decide +kernel), List.mem_of_getElem? (i := 1275) (by decide +kernel), List.mem_of_getElem? (i := 1276) (by decide +kernel)⟩
theorem lw_p65 : lw_okq (⟨"TwoFliersModel", "countsOf", "(I)I"⟩, 30) := ⟨⟨by decide +kernel, by decide +kernel⟩, List.mem_of_getElem? (i := 819) (by decide +kernel), List.mem_of_getElem? (i := 1295) (by decide +kernel), List.mem_of_getElem? (i := 1296) (by decide +kernel)⟩
theorem lw_p66 : lw_okq (⟨"TwoFliersModel", "mix", "(I)V"⟩, 30) := ⟨⟨by decide +kernel, by decide +kernel⟩, List.mem_of_getElem? (i := 819) (by decide +kernel), List.mem_of_getElem? (i := 1312) (by decide +kernel), List.mem_of_getElem? (i := 1313) (by decide +kernel)⟩
theorem lw_p67 : lw_okq (⟨"TwoFliersModel", "mixFlight", "()V"⟩, 30) := ⟨⟨by decide +kernel, by decide +kernel⟩, List.mem_of_getElem? (i := 819) (by decide +kernel), List.mem_of_getElem? (i := 1317) (by decide +kernel), List.mem_of_getElem? (i := 1318) (by decide +kernel)⟩
def lw_privs_5 : List (MethodName × Nat) := [(⟨"TwoFliersModel", "isImage", "(I)Z"⟩, 30), (⟨"TwoFliersModel", "countsOf", "(I)I"⟩, 30), (⟨"TwoFliersModel", "mix", "(I)V"⟩, 30), (⟨"TwoFliersModel", "mixFlight", "()V"⟩, 30)]
theorem lw_r5 : ∀ q ∈ lw_privs_5, lw_okq q := List.forall_mem_cons.mpr ⟨lw_p64, List.forall_mem_cons.mpr ⟨lw_p65, List.forall_mem_cons.mpr ⟨lw_p66, List.forall_mem_cons.mpr ⟨lw_p67, fun _ h => absurd h List.not_mem_nil⟩⟩⟩⟩
def lw_privs : List (MethodName × Nat) := lw_privs_1 ++ (lw_privs_2 ++ (lw_privs_3 ++ (lw_privs_4 ++ (lw_privs_5))))
def lw_tbl : List Cond := k2_sels lw_privs ++ tables_1
theorem lw_privs_ok : ∀ q ∈ lw_privs, lw_okq q := by
  show ∀ q ∈ lw_privs_1 ++ (lw_privs_2 ++ (lw_privs_3 ++ (lw_privs_4 ++ (lw_privs_5)))), lw_okq q
  exact List.forall_mem_append.mpr ⟨lw_r1, List.forall_mem_append.mpr ⟨lw_r2, List.forall_mem_append.mpr ⟨lw_r3, List.forall_mem_append.mpr ⟨lw_r4, lw_r5⟩⟩⟩⟩
end
section
def RX0 : String := "TwoFliers$Book"
def TX0 : u_T := fun k => match k with
  | 0 => ("TwoFliers$Book", "signs", "[LTwoFliers$Sign;", true)
  | _ => ("TwoFliers$Book", "many", "I", false)
def tyX0 : Nat → FieldType := fun k => match k with
  | 0 => .array (.object "TwoFliers$Sign")
  | _ => .int
theorem nmX0 : ∀ a, a < 2 → ∀ b, b < 2 → a ≠ b → (TX0 a).2.1 ≠ (TX0 b).2.1 := by decide +kernel
theorem tyX0_ok : ∀ k, k < 2 → parseFieldDescriptor (TX0 k).2.2.1 = some (tyX0 k) := by decide +kernel
def RX2 : String := "TwoFliers$Odds"
def TX2 : u_T := fun k => match k with
  | 0 => ("TwoFliers$Odds", "plane", "LTwoFliers$Plane;", true)
  | 1 => ("TwoFliers$Odds", "book", "LTwoFliers$Book;", true)
  | 2 => ("TwoFliers$Odds", "stories", "[[I", true)
  | 3 => ("TwoFliers$Odds", "weight", "[J", true)
  | 4 => ("TwoFliers$Odds", "byHour", "[J", true)
  | 5 => ("TwoFliers$Odds", "all", "J", false)
  | 6 => ("TwoFliers$Odds", "now", "[J", false)
  | _ => ("TwoFliers$Odds", "next", "[J", false)
def tyX2 : Nat → FieldType := fun k => match k with
  | 0 => .object "TwoFliers$Plane"
  | 1 => .object "TwoFliers$Book"
  | 2 => .array (.array .int)
  | 3 => .array .long
  | 4 => .array .long
  | 5 => .long
  | 6 => .array .long
  | _ => .array .long
theorem nmX2 : ∀ a, a < 8 → ∀ b, b < 8 → a ≠ b → (TX2 a).2.1 ≠ (TX2 b).2.1 := by decide +kernel
theorem tyX2_ok : ∀ k, k < 8 → parseFieldDescriptor (TX2 k).2.2.1 = some (tyX2 k) := by decide +kernel
def RX3 : String := "TwoFliers$Plane"
def TX3 : u_T := fun k => match k with
  | 0 => ("TwoFliers$Plane", "cell", "I", false)
  | 1 => ("TwoFliers$Plane", "hours", "I", false)
  | 2 => ("TwoFliers$Plane", "courses", "[I", true)
  | _ => ("TwoFliers$Plane", "ends", "[I", true)
def tyX3 : Nat → FieldType := fun k => match k with
  | 0 => .int
  | 1 => .int
  | 2 => .array .int
  | _ => .array .int
theorem nmX3 : ∀ a, a < 4 → ∀ b, b < 4 → a ≠ b → (TX3 a).2.1 ≠ (TX3 b).2.1 := by decide +kernel
theorem tyX3_ok : ∀ k, k < 4 → parseFieldDescriptor (TX3 k).2.2.1 = some (tyX3 k) := by decide +kernel
def RX4 : String := "TwoFliers$Reader"
def TX4 : u_T := fun k => match k with
  | 0 => ("TwoFliers$Reader", "text", "[B", false)
  | 1 => ("TwoFliers$Reader", "size", "I", false)
  | 2 => ("TwoFliers$Reader", "place", "I", false)
  | 3 => ("TwoFliers$Reader", "fault", "I", false)
  | 4 => ("TwoFliers$Reader", "laid", "[I", true)
  | _ => ("TwoFliers$Reader", "items", "I", false)
def tyX4 : Nat → FieldType := fun k => match k with
  | 0 => .array .byte
  | 1 => .int
  | 2 => .int
  | 3 => .int
  | 4 => .array .int
  | _ => .int
theorem nmX4 : ∀ a, a < 6 → ∀ b, b < 6 → a ≠ b → (TX4 a).2.1 ≠ (TX4 b).2.1 := by decide +kernel
theorem tyX4_ok : ∀ k, k < 6 → parseFieldDescriptor (TX4 k).2.2.1 = some (tyX4 k) := by decide +kernel
def RX5 : String := "TwoFliers$Ship"
def TX5 : u_T := fun k => match k with
  | 0 => ("TwoFliers$Ship", "bestWay", "[I", true)
  | 1 => ("TwoFliers$Ship", "way", "[I", true)
  | 2 => ("TwoFliers$Ship", "best", "J", false)
  | _ => ("TwoFliers$Ship", "hours", "I", false)
def tyX5 : Nat → FieldType := fun k => match k with
  | 0 => .array .int
  | 1 => .array .int
  | 2 => .long
  | _ => .int
theorem nmX5 : ∀ a, a < 4 → ∀ b, b < 4 → a ≠ b → (TX5 a).2.1 ≠ (TX5 b).2.1 := by decide +kernel
theorem tyX5_ok : ∀ k, k < 4 → parseFieldDescriptor (TX5 k).2.2.1 = some (tyX5 k) := by decide +kernel
def RX6 : String := "TwoFliers$Sign"
def TX6 : u_T := fun k => match k with
  | 0 => ("TwoFliers$Sign", "kind", "I", false)
  | 1 => ("TwoFliers$Sign", "a", "I", false)
  | 2 => ("TwoFliers$Sign", "b", "I", false)
  | 3 => ("TwoFliers$Sign", "c", "I", false)
  | _ => ("TwoFliers$Sign", "undone", "Z", false)
def tyX6 : Nat → FieldType := fun k => match k with
  | 0 => .int
  | 1 => .int
  | 2 => .int
  | 3 => .int
  | _ => .boolean
theorem nmX6 : ∀ a, a < 5 → ∀ b, b < 5 → a ≠ b → (TX6 a).2.1 ≠ (TX6 b).2.1 := by decide +kernel
theorem tyX6_ok : ∀ k, k < 5 → parseFieldDescriptor (TX6 k).2.2.1 = some (tyX6 k) := by decide +kernel
def RX7 : String := "TwoFliers"
def TX7 : u_T := fun k => match k with
  | 0 => ("TwoFliers", "rows", "[[I", true)
  | 1 => ("TwoFliers", "rowSizes", "[I", true)
  | 2 => ("TwoFliers", "texts", "[[B", true)
  | 3 => ("TwoFliers", "textSizes", "[I", true)
  | 4 => ("TwoFliers", "odds", "LTwoFliers$Odds;", true)
  | 5 => ("TwoFliers", "plane", "LTwoFliers$Plane;", true)
  | 6 => ("TwoFliers", "book", "LTwoFliers$Book;", true)
  | 7 => ("TwoFliers", "stories", "[[I", true)
  | 8 => ("TwoFliers", "storyThere", "[Z", true)
  | 9 => ("TwoFliers", "reader", "LTwoFliers$Reader;", true)
  | 10 => ("TwoFliers", "ship", "LTwoFliers$Ship;", true)
  | 11 => ("TwoFliers", "lastAsked", "I", false)
  | 12 => ("TwoFliers", "lastUpper", "J", false)
  | 13 => ("TwoFliers", "lastLower", "J", false)
  | 14 => ("TwoFliers", "lastFinding", "I", false)
  | _ => ("TwoFliers", "findingCounts", "[I", true)
def tyX7 : Nat → FieldType := fun k => match k with
  | 0 => .array (.array .int)
  | 1 => .array .int
  | 2 => .array (.array .byte)
  | 3 => .array .int
  | 4 => .object "TwoFliers$Odds"
  | 5 => .object "TwoFliers$Plane"
  | 6 => .object "TwoFliers$Book"
  | 7 => .array (.array .int)
  | 8 => .array .boolean
  | 9 => .object "TwoFliers$Reader"
  | 10 => .object "TwoFliers$Ship"
  | 11 => .int
  | 12 => .long
  | 13 => .long
  | 14 => .int
  | _ => .array .int
theorem nmX7 : ∀ a, a < 16 → ∀ b, b < 16 → a ≠ b → (TX7 a).2.1 ≠ (TX7 b).2.1 := by decide +kernel
theorem tyX7_ok : ∀ k, k < 16 → parseFieldDescriptor (TX7 k).2.2.1 = some (tyX7 k) := by decide +kernel
def RX8 : String := "TwoFliersModel"
def TX8 : u_T := fun k => match k with
  | 0 => ("TwoFliersModel", "finding", "I", false)
  | 1 => ("TwoFliersModel", "findings", "[I", true)
  | 2 => ("TwoFliersModel", "asked", "I", false)
  | 3 => ("TwoFliersModel", "upper", "J", false)
  | 4 => ("TwoFliersModel", "lower", "J", false)
  | 5 => ("TwoFliersModel", "sizes", "[I", true)
  | 6 => ("TwoFliersModel", "rows", "[I", true)
  | 7 => ("TwoFliersModel", "moving", "[I", true)
  | 8 => ("TwoFliersModel", "lengths", "[I", true)
  | 9 => ("TwoFliersModel", "texts", "[I", true)
  | 10 => ("TwoFliersModel", "flight", "[I", true)
  | 11 => ("TwoFliersModel", "isStory", "[Z", true)
  | 12 => ("TwoFliersModel", "lies", "[I", true)
  | 13 => ("TwoFliersModel", "readLies", "[I", true)
  | 14 => ("TwoFliersModel", "readAt", "I", false)
  | 15 => ("TwoFliersModel", "readNumber", "I", false)
  | 16 => ("TwoFliersModel", "readMany", "I", false)
  | 17 => ("TwoFliersModel", "signMany", "I", false)
  | 18 => ("TwoFliersModel", "signs", "[I", true)
  | 19 => ("TwoFliersModel", "leftOut", "I", false)
  | 20 => ("TwoFliersModel", "come", "[J", true)
  | 21 => ("TwoFliersModel", "rest", "[J", true)
  | 22 => ("TwoFliersModel", "ending", "[J", true)
  | 23 => ("TwoFliersModel", "all", "J", false)
  | 24 => ("TwoFliersModel", "drags", "[I", true)
  | 25 => ("TwoFliersModel", "bestDrag", "[I", true)
  | 26 => ("TwoFliersModel", "bestWeight", "J", false)
  | 27 => ("TwoFliersModel", "bestMany", "I", false)
  | 28 => ("TwoFliersModel", "tried", "[I", true)
  | _ => ("TwoFliersModel", "h0", "J", false)
def tyX8 : Nat → FieldType := fun k => match k with
  | 0 => .int
  | 1 => .array .int
  | 2 => .int
  | 3 => .long
  | 4 => .long
  | 5 => .array .int
  | 6 => .array .int
  | 7 => .array .int
  | 8 => .array .int
  | 9 => .array .int
  | 10 => .array .int
  | 11 => .array .boolean
  | 12 => .array .int
  | 13 => .array .int
  | 14 => .int
  | 15 => .int
  | 16 => .int
  | 17 => .int
  | 18 => .array .int
  | 19 => .int
  | 20 => .array .long
  | 21 => .array .long
  | 22 => .array .long
  | 23 => .long
  | 24 => .array .int
  | 25 => .array .int
  | 26 => .long
  | 27 => .int
  | 28 => .array .int
  | _ => .long
theorem nmX8 : ∀ a, a < 30 → ∀ b, b < 30 → a ≠ b → (TX8 a).2.1 ≠ (TX8 b).2.1 := by decide +kernel
theorem tyX8_ok : ∀ k, k < 30 → parseFieldDescriptor (TX8 k).2.2.1 = some (tyX8 k) := by decide +kernel
def RX1 : String := "TwoFliers$Chart"
theorem sm_in0 : u_ws RX0 TX0 2 = ([169, 171] : List Nat).filterMap (fun i => lw_tbl[i]?) := by decide +kernel
theorem sm_in2 : u_ws RX2 TX2 8 = ([189, 191, 193, 195, 197, 199, 201, 203] : List Nat).filterMap (fun i => lw_tbl[i]?) := by decide +kernel
theorem sm_in3 : u_ws RX3 TX3 4 = ([118, 120, 122, 124] : List Nat).filterMap (fun i => lw_tbl[i]?) := by decide +kernel
theorem sm_in4 : u_ws RX4 TX4 6 = ([221, 223, 225, 227, 229, 231] : List Nat).filterMap (fun i => lw_tbl[i]?) := by decide +kernel
theorem sm_in5 : u_ws RX5 TX5 4 = ([247, 249, 251, 253] : List Nat).filterMap (fun i => lw_tbl[i]?) := by decide +kernel
theorem sm_in6 : u_ws RX6 TX6 5 = ([152, 154, 156, 158, 160] : List Nat).filterMap (fun i => lw_tbl[i]?) := by decide +kernel
theorem sm_in7 : u_ws RX7 TX7 16 = ([275, 277, 279, 281, 283, 285, 287, 289, 291, 293, 295, 297, 299, 301, 303, 305] : List Nat).filterMap (fun i => lw_tbl[i]?) := by decide +kernel
theorem sm_in8 : u_ws RX8 TX8 30 = ([922, 924, 926, 928, 930, 932, 934, 936, 938, 940, 942, 944, 946, 948, 950, 952, 954, 956, 958, 960, 962, 964, 966, 968, 970, 972, 974, 976, 978, 980] : List Nat).filterMap (fun i => lw_tbl[i]?) := by decide +kernel
end
section
/-! ===== the small machine: memories, the world that they stand for, what it is that a piece of code is worth ===== -/
def sm_tb : List Cond := lw_tbl.filter goodWord
theorem sm_at (i : Nat) {w : Cond} (h : lw_tbl[i]? = some w) (hg : goodWord w = true) : w ∈ sm_tb := List.mem_filter.mpr ⟨List.mem_of_getElem? h, hg⟩
theorem sm_gi : GoodIn sm_tb sm_tb := fun w hw => ⟨hw, good_of_word (List.mem_filter.mp hw).2⟩
theorem sm_ly (C : String) (T : u_T) (N : Nat) (ps : List Nat) (h : u_ws C T N = ps.filterMap (fun i => lw_tbl[i]?)) (hg : (u_ws C T N).all goodWord = true) : ∀ w ∈ u_ws C T N, w ∈ sm_tb := fun w hw => by
  have h1 := List.all_eq_true.mp hg w hw
  rw [h] at hw
  obtain ⟨i, -, hi⟩ := List.mem_filterMap.mp hw
  exact sm_at i hi h1
abbrev sm_Sh : Type := List ((FieldType × Nat) ⊕ Nat)
abbrev sm_M : Type := sm_Sh × (Nat → Nat → Int32) × (Nat → Nat → Int64) × (Nat → Nat → Option Nat)
/-- where the numbers of cells lie, from where on cells are the run's own, the script, classes -/
abbrev sm_G : Type := (Nat → Nat) × Nat × Nat × (Nat → Int32) × va_G × (FieldType → ClassId)
def sm_A (g : sm_G) : Nat → Prop := fun q => g.2.1 ≤ q
def sm_tv (g : sm_G) (v : Value) : Value := match v with
  | .ref a => .ref (g.1 a)
  | w => w
theorem sm_tv_cat (g : sm_G) (v : Value) : (sm_tv g v).category = v.category := by cases v <;> rfl
def sm_cl : List vw_C := [(RX0, TX0, 2), (RX2, TX2, 8), (RX3, TX3, 4), (RX4, TX4, 6), (RX5, TX5, 4), (RX6, TX6, 5), (RX7, TX7, 16), (RX8, TX8, 30)]
def sm_nf (ci : Nat) : Nat := match ci with
  | 0 => 2 | 1 => 8 | 2 => 4 | 3 => 6 | 4 => 4 | 5 => 5 | 6 => 16 | 7 => 30 | _ => 0
def sm_tf (ci : Nat) : Nat → FieldType := match ci with
  | 0 => tyX0 | 1 => tyX2 | 2 => tyX3 | 3 => tyX4 | 4 => tyX5 | 5 => tyX6 | 6 => tyX7 | _ => tyX8
def sm_T (ci : Nat) : u_T := match ci with
  | 0 => TX0 | 1 => TX2 | 2 => TX3 | 3 => TX4 | 4 => TX5 | 5 => TX6 | 6 => TX7 | _ => TX8
def sm_Rn (ci : Nat) : String := match ci with
  | 0 => RX0 | 1 => RX2 | 2 => RX3 | 3 => RX4 | 4 => RX5 | 5 => RX6 | 6 => RX7 | _ => RX8
theorem sm_c8 {P : Nat → Prop} (h0 : P 0) (h1 : P 1) (h2 : P 2) (h3 : P 3) (h4 : P 4) (h5 : P 5) (h6 : P 6) (h7 : P 7) (ci : Nat) (h : ci < 8) : P ci := by
  match ci, h with
  | 0, _ => exact h0 | 1, _ => exact h1 | 2, _ => exact h2 | 3, _ => exact h3 | 4, _ => exact h4 | 5, _ => exact h5 | 6, _ => exact h6 | 7, _ => exact h7
theorem sm_cl_at : ∀ ci, ci < 8 → sm_cl[ci]? = some (sm_Rn ci, sm_T ci, sm_nf ci) := sm_c8 rfl rfl rfl rfl rfl rfl rfl rfl
theorem sm_cl_in : ∀ ci, ci < 8 → ∀ w ∈ u_ws (sm_Rn ci) (sm_T ci) (sm_nf ci), w ∈ sm_tb := sm_c8 (sm_ly _ _ _ _ sm_in0 (by decide +kernel)) (sm_ly _ _ _ _ sm_in2 (by decide +kernel)) (sm_ly _ _ _ _ sm_in3 (by decide +kernel)) (sm_ly _ _ _ _ sm_in4 (by decide +kernel)) (sm_ly _ _ _ _ sm_in5 (by decide +kernel)) (sm_ly _ _ _ _ sm_in6 (by decide +kernel)) (sm_ly _ _ _ _ sm_in7 (by decide +kernel)) (sm_ly _ _ _ _ sm_in8 (by decide +kernel))
theorem sm_cl_ty : ∀ ci, ci < 8 → ∀ k, k < sm_nf ci → parseFieldDescriptor (sm_T ci k).2.2.1 = some (sm_tf ci k) := sm_c8 tyX0_ok tyX2_ok tyX3_ok tyX4_ok tyX5_ok tyX6_ok tyX7_ok tyX8_ok
theorem sm_cl_nm : ∀ ci, ci < 8 → ∀ a, a < sm_nf ci → ∀ b, b < sm_nf ci → a ≠ b → (sm_T ci a).2.1 ≠ (sm_T ci b).2.1 := sm_c8 nmX0 nmX2 nmX3 nmX4 nmX5 nmX6 nmX7 nmX8
def sm_kd (ty : FieldType) : Nat := match ty with
  | .long => 1 | .object _ => 2 | .array _ => 2 | _ => 0
def sm_fv (g : sm_G) (M : sm_M) (a ci k : Nat) : Value := match sm_kd (sm_tf ci k) with
  | 0 => .int (M.2.1 a k)
  | 1 => .long (M.2.2.1 a k)
  | _ => va_rf ((M.2.2.2 a k).map g.1)
def sm_ar (g : sm_G) (M : sm_M) (a : Nat) (ty : FieldType) (n : Nat) : vp_A := match sm_kd ty with
  | 0 => (n, .inl (M.2.1 a))
  | 1 => (n, .inr (.inl (M.2.2.1 a)))
  | _ => (n, .inr (.inr (.inr (.inr (fun j => (M.2.2.2 a j).map g.1)))))
def sm_ce (g : sm_G) (M : sm_M) (a : Nat) (x : (FieldType × Nat) ⊕ Nat) : va_E := match x with
  | .inl q => .inl (g.2.2.2.2.2 q.1, sm_ar g M a q.1 q.2)
  | .inr ci => .inr (ci, (List.range (sm_nf ci)).map (sm_fv g M a ci))
def sm_w (g : sm_G) (M : sm_M) : va_W := (M.1.drop 3).zipIdx.map (fun q => (g.1 (q.2 + 3), sm_ce g M (q.2 + 3) q.1))
theorem sm_w_get (g : sm_G) (M : sm_M) (j : Nat) : (sm_w g M)[j]? = (M.1[j + 3]?).map (fun x => (g.1 (j + 3), sm_ce g M (j + 3) x)) := by
  unfold sm_w
  rw [List.getElem?_map, List.getElem?_zipIdx, List.getElem?_drop, Nat.add_comm 3 j]
  cases M.1[j + 3]? <;> simp
theorem sm_w_at {g : sm_G} {M : sm_M} {a : Nat} {x : (FieldType × Nat) ⊕ Nat} (h : M.1[a]? = some x) (h3 : 3 ≤ a) : (sm_w g M)[a - 3]? = some (g.1 a, sm_ce g M a x) := by
  rw [sm_w_get, Nat.sub_add_cancel h3, h]
  rfl
theorem sm_ce_eq {g : sm_G} {M M' : sm_M} {b : Nat} (h1 : M'.2.1 b = M.2.1 b) (h2 : M'.2.2.1 b = M.2.2.1 b) (h3 : M'.2.2.2 b = M.2.2.2 b) (x : (FieldType × Nat) ⊕ Nat) : sm_ce g M' b x = sm_ce g M b x := by
  cases x with
  | inl q => simp only [sm_ce, sm_ar, h1, h2, h3]
  | inr ci =>
    have e : sm_fv g M' b ci = sm_fv g M b ci := funext fun k => by simp only [sm_fv, h1, h2, h3]
    simp only [sm_ce, e]
theorem sm_w_set {g : sm_G} {M M' : sm_M} {a : Nat} {x : (FieldType × Nat) ⊕ Nat} {E : va_E} (hs : M'.1 = M.1) (ho : ∀ b, b ≠ a → M'.2.1 b = M.2.1 b ∧ M'.2.2.1 b = M.2.2.1 b ∧ M'.2.2.2 b = M.2.2.2 b) (h : M.1[a]? = some x) (h3 : 3 ≤ a) (hE : sm_ce g M' a x = E) : (sm_w g M).set (a - 3) (g.1 a, E) = sm_w g M' := by
  apply List.ext_getElem?
  intro j
  rw [sm_w_get g M' j, hs]
  by_cases e : j = a - 3
  · subst e
    rw [List.getElem?_set_self (List.getElem?_eq_some_iff.mp (sm_w_at (g := g) h h3)).1, Nat.sub_add_cancel h3, h, ← hE]
    rfl
  · rw [List.getElem?_set_ne (Ne.symm e), sm_w_get]
    have hb : j + 3 ≠ a := by omega
    obtain ⟨h1, h2, h4⟩ := ho _ hb
    cases M.1[j + 3]? with
    | none => rfl
    | some y => simp only [Option.map_some]; rw [sm_ce_eq h1 h2 h4]
/-- the two static arrays (cells 0, 1) and the script (cell 2) -/
def sm_sx : Nat → Int32 := fun j => ([0, 1, 1, 1, 0, -1, -1, -1] : List Int32).getD j 0
def sm_sy : Nat → Int32 := fun j => ([-1, -1, 0, 1, 1, 1, 0, -1] : List Int32).getD j 0
def sm_E (g : sm_G) (M : sm_M) : Prop := M.1[0]? = some (.inl (.int, 8)) ∧ M.1[1]? = some (.inl (.int, 8)) ∧ M.1[2]? = some (.inl (.int, g.2.2.1)) ∧ M.2.1 0 = sm_sx ∧ M.2.1 1 = sm_sy ∧ M.2.1 2 = g.2.2.2.1
def sm_R (g : sm_G) (M : sm_M) (H : Heap) : Prop := sm_E g M ∧ va_P g.2.2.2.2.1 sm_cl (sm_w g M) H ∧ va_D (sm_A g) (sm_w g M)
def sm_tys (g : sm_G) : List (ClassId × FieldType) := [.int, .long, .byte, .boolean, .array .int, .array .byte, .object "TwoFliers$Sign"].map (fun t => (g.2.2.2.2.2 t, t))
/-- links to private members of nest mates -/
def sm_nl : List (String × Nat × MethodName × String) := [("TwoFliers", 28, ⟨"TwoFliers$Odds", "<init>", "()V"⟩, "TwoFliers"), ("TwoFliers$Book", 21, ⟨"TwoFliers$Sign", "<init>", "()V"⟩, "TwoFliers"), ("TwoFliers", 53, ⟨"TwoFliers$Reader", "<init>", "()V"⟩, "TwoFliers"), ("TwoFliers", 60, ⟨"TwoFliers$Ship", "<init>", "()V"⟩, "TwoFliers"), ("TwoFliers$Sign", 30, ⟨"TwoFliers", "isWithin", "(II)Z"⟩, "TwoFliers"), ("TwoFliers$Plane", 43, ⟨"TwoFliers", "isWithin", "(II)Z"⟩, "TwoFliers")]
def sm_Nn (U : State) : Prop := ∀ q ∈ sm_nl, va_Nw (.methodLinkNest q.1 q.2.1 q.2.2.1 q.2.2.2) U
theorem sm_Nn.warm {u U : State} (hW : u.WarmedH U.vm) (h : sm_Nn u) : sm_Nn U := fun q hq => (h q hq).warmM hW
theorem sm_Nn.same {u U : State} (hv : u.vm = U.vm) (h : sm_Nn u) : sm_Nn U := fun q hq => va_Nw.same rfl hv (h q hq)
def sm_X (g : sm_G) (U : State) (H : Heap) : Prop := va_K g.2.2.2.2.1 sm_cl (sm_tys g) U ∧ va_Z "TwoFliers$Chart" "STEP_X" "[I" (.ref (g.1 0)) (sm_A g) U H ∧ va_Z "TwoFliers$Chart" "STEP_Y" "[I" (.ref (g.1 1)) (sm_A g) U H ∧ va_T .int (g.1 0) 8 (fun j => .int (sm_sx j)) (sm_A g) U H ∧ va_T .int (g.1 1) 8 (fun j => .int (sm_sy j)) (sm_A g) U H ∧ va_X (g.1 2) g.2.2.1 g.2.2.2.1 U H ∧ g.1 2 < H.size ∧ ¬ sm_A g (g.1 2) ∧ sm_Nn U
theorem sm_X.kept {g : sm_G} {U : State} {H H1 : Heap} (h : sm_X g U H) (hz : H.size ≤ H1.size) (hq : ∀ a : Nat, a < H.size → ¬ sm_A g a → H1[a]? = H[a]?) : sm_X g U H1 := by
  obtain ⟨h1, h2, h3, h4, h5, h6, h7, h8, h9⟩ := h
  exact ⟨h1, h2.kept hq, h3.kept hq, h4.kept hq, h5.kept hq, h6.kept (hq _ h7 h8), Nat.lt_of_lt_of_le h7 hz, h8, h9⟩
theorem sm_X.moved {g : sm_G} {u U : State} {H : Heap} (hvm : u.vm.Alike U.vm) (hn : sm_Nn U) (h : sm_X g u H) : sm_X g U H := by
  obtain ⟨h1, h2, h3, h4, h5, h6, h7, h8, h9⟩ := h
  exact ⟨h1.moved hvm, h2.moved hvm, h3.moved hvm, h4.moved hvm, h5.moved hvm, h6.moved hvm, h7, h8, hn⟩
theorem sm_X.warm {g : sm_G} {u U : State} {H : Heap} (hW : u.WarmedH U.vm) (h : sm_X g u H) : sm_X g U H := h.moved hW.alike (h.2.2.2.2.2.2.2.2.warm hW)
/-- a method: name, bytes, locals, what it returns; frames, cells, slots that it may take -/
abbrev sm_K : Type := MethodName × ByteArray × Nat × Option FieldType × Nat × Nat × Nat
/-- a method's activation: the machine, its code, the tables, its room -/
def sm_C (k : sm_K) (g : sm_G) (p : Program) (R : Room) (s : State) (m : MethodId) (args : Array Value) (meth : Method) (c : Code) : Prop :=
  p.tables.exec = Jvm.exec ∧ c.code = k.2.1 ∧ meth.sig.returnType = k.2.2.2.1 ∧ c.maxLocals = k.2.2.1 ∧ s.vm.findClass k.1.cls = some m.cls ∧ (∀ w ∈ sm_tb, w.before args s = true) ∧ meth.locks = false ∧ meth.name = k.1.name ∧ g.2.1 ≤ s.heap.size ∧ sm_X g s s.heap ∧ k.2.2.2.2.1 ≤ R.frames ∧ 64 * k.2.2.2.2.1 ≤ R.locals ∧ k.2.2.2.2.2.1 ≤ R.cells ∧ k.2.2.2.2.2.2 ≤ R.slots
/-- the locals that are known -/
def sm_L (g : sm_G) (n : Nat) (lf : List (Option Value)) (ls : Array Slot) : Prop := ls.size = n ∧ lv_wf ls ∧ ∀ (i : Nat) (v : Value), lf[i]? = some (some v) → ls[i]? = some (.val (sm_tv g v))
def sm_ri (v : Option Value) : Instr := match v with
  | some (.int _) => .ireturn
  | some (.long _) => .lreturn
  | _ => .return_
/-- a grown map of the cells' places: the same on the old ones; a method that makes nothing leaves it -/
def sm_ext (k : sm_K) (n : Nat) (g g' : sm_G) : Prop := (∀ i, i < n → g'.1 i = g.1 i) ∧ g'.2 = g.2 ∧ (k.2.2.2.2.2.1 = 0 → g' = g)
/-- what is wanted at the end is had wherever the method returns with r -/
def sm_Q (k : sm_K) (n : Nat) (g : sm_G) (p : Program) (l : Launch) (e : Env) (R : Room) (s : State) (m : MethodId) (args : Array Value) (below : List Frame) (meth : Method) (c : Code) (Q : State → Prop) (r : Option Value × sm_M) : Prop :=
  ∀ (g' : sm_G) (H : Heap) (locs : List Loc) (ls : Array Slot) (pc cells slots : Nat), sm_ext k n g g' → sm_R g' r.2 H → va_S (sm_A g) s.heap H locs → cells ≤ k.2.2.2.2.2.1 → slots ≤ k.2.2.2.2.2.2 → decode k.2.1 pc = .ok (sm_ri r.1, 1) → (∀ v, r.1 = some (.int v) → k.2.2.2.1 = some .boolean → v = 0 ∨ v = 1) → W p l e R s m args below meth c H locs cells slots Q (F0 m pc ls r.1.toList)
/-- THE WORTH OF A PIECE OF CODE: from here on, with these locals, this stack, this memory, the method returns as o tells (if o tells anything) -/
def sm_S {ρ : Type} (j : ρ → Option Value × sm_M) (k : sm_K) (cells slots pc : Nat) (lf : List (Option Value)) (st : List Value) (M : sm_M) (o : Option ρ) : Prop :=
  ∀ r : ρ, o = some r → ∀ (n : Nat) (g0 g : sm_G) (p : Program) (l : Launch) (e : Env) (R : Room) (s : State) (m : MethodId) (args : Array Value) (below : List Frame) (meth : Method) (c : Code) (Q : State → Prop), sm_C k g p R s m args meth c → sm_ext k n g0 g → n ≤ M.1.length → sm_Q k n g0 p l e R s m args below meth c Q (j r) →
    ∀ (H : Heap) (locs : List Loc) (ls : Array Slot), sm_R g M H → va_S (sm_A g) s.heap H locs → sm_L g k.2.2.1 lf ls → W p l e R s m args below meth c H locs cells slots Q (F0 m pc ls (st.map (sm_tv g)))
def sm_ji : Int32 × sm_M → Option Value × sm_M := fun q => (some (.int q.1), q.2)
def sm_jl : Int64 × sm_M → Option Value × sm_M := fun q => (some (.long q.1), q.2)
def sm_jv : sm_M → Option Value × sm_M := fun q => (none, q)
end
section
section
variable {ρ : Type} {j : ρ → Option Value × sm_M} {k : sm_K} {cs sl pc : Nat} {lf lf2 : List (Option Value)} {st : List Value} {M : sm_M} {o o1 o2 : Option ρ}
theorem sd_iconst {z : Int} (v : Int32) (hd : decode k.2.1 pc = .ok (.iconst z, 1)) (hv : Int32.ofInt z = v) (h : sm_S j k cs sl (pc + 1) lf (.int v :: st) M o) : sm_S j k cs sl pc lf st M o := by
  intro r hr n g0 g p l e R s m args below meth c Q hC hx hn hQ H locs ls hM hS hL
  exact lv_iconst hC.1 hC.2.1 hd hv (h r hr n g0 g p l e R s m args below meth c Q hC hx hn hQ H locs ls hM hS hL)
theorem sd_bipush {z : Int} (v : Int32) (hd : decode k.2.1 pc = .ok (.bipush z, 2)) (hv : (Int8.ofInt z).toInt32 = v) (h : sm_S j k cs sl (pc + 2) lf (.int v :: st) M o) : sm_S j k cs sl pc lf st M o := by
  intro r hr n g0 g p l e R s m args below meth c Q hC hx hn hQ H locs ls hM hS hL
  exact lv_bipush hC.1 hC.2.1 hd hv (h r hr n g0 g p l e R s m args below meth c Q hC hx hn hQ H locs ls hM hS hL)
theorem sd_sipush {z : Int} (v : Int32) (hd : decode k.2.1 pc = .ok (.sipush z, 3)) (hv : (Int16.ofInt z).toInt32 = v) (h : sm_S j k cs sl (pc + 3) lf (.int v :: st) M o) : sm_S j k cs sl pc lf st M o := by
  intro r hr n g0 g p l e R s m args below meth c Q hC hx hn hQ H locs ls hM hS hL
  exact lv_sipush hC.1 hC.2.1 hd hv (h r hr n g0 g p l e R s m args below meth c Q hC hx hn hQ H locs ls hM hS hL)
theorem sd_lconst {z : Fin 2} (v : Int64) (hd : decode k.2.1 pc = .ok (.lconst z, 1)) (hv : Int64.ofNat (z : Nat) = v) (h : sm_S j k cs sl (pc + 1) lf (.long v :: st) M o) : sm_S j k cs sl pc lf st M o := by
  intro r hr n g0 g p l e R s m args below meth c Q hC hx hn hQ H locs ls hM hS hL
  exact lv_lconst hC.1 hC.2.1 hd hv (h r hr n g0 g p l e R s m args below meth c Q hC hx hn hQ H locs ls hM hS hL)
theorem sd_ldc {i : Nat} {v : Int32} (hc : Cond.constant k.1.cls i v ∈ sm_tb) (hd : decode k.2.1 pc = .ok (.ldc i, 2)) (h : sm_S j k cs sl (pc + 2) lf (.int v :: st) M o) : sm_S j k cs sl pc lf st M o := by
  intro r hr n g0 g p l e R s m args below meth c Q hC hx hn hQ H locs ls hM hS hL
  exact lv_ldc hC.1 hC.2.1 hC.2.2.2.2.1 (hC.2.2.2.2.2.1 _ hc) hd (h r hr n g0 g p l e R s m args below meth c Q hC hx hn hQ H locs ls hM hS hL)
theorem sd_ldcw {i : Nat} {v : Int32} (hc : Cond.constant k.1.cls i v ∈ sm_tb) (hd : decode k.2.1 pc = .ok (.ldc_w i, 3)) (h : sm_S j k cs sl (pc + 3) lf (.int v :: st) M o) : sm_S j k cs sl pc lf st M o := by
  intro r hr n g0 g p l e R s m args below meth c Q hC hx hn hQ H locs ls hM hS hL
  exact lv_ldcw hC.1 hC.2.1 hC.2.2.2.2.1 (hC.2.2.2.2.2.1 _ hc) hd (h r hr n g0 g p l e R s m args below meth c Q hC hx hn hQ H locs ls hM hS hL)
theorem sd_ldc2 {i : Nat} {v : Int64} (hc : Cond.constantLong k.1.cls i v ∈ sm_tb) (hd : decode k.2.1 pc = .ok (.ldc2_w i, 3)) (h : sm_S j k cs sl (pc + 3) lf (.long v :: st) M o) : sm_S j k cs sl pc lf st M o := by
  intro r hr n g0 g p l e R s m args below meth c Q hC hx hn hQ H locs ls hM hS hL
  exact lv_ldc2 hC.1 hC.2.1 hC.2.2.2.2.1 (hC.2.2.2.2.2.1 _ hc) hd (h r hr n g0 g p l e R s m args below meth c Q hC hx hn hQ H locs ls hM hS hL)
theorem sd_null (hd : decode k.2.1 pc = .ok (.aconst_null, 1)) (h : sm_S j k cs sl (pc + 1) lf (.null :: st) M o) : sm_S j k cs sl pc lf st M o := by
  intro r hr n g0 g p l e R s m args below meth c Q hC hx hn hQ H locs ls hM hS hL
  exact lv_null hC.1 hC.2.1 hd (h r hr n g0 g p l e R s m args below meth c Q hC hx hn hQ H locs ls hM hS hL)
theorem sd_iload_n {z : Fin 4} {x : Int32} (hd : decode k.2.1 pc = .ok (.iload_n z, 1)) (hl : lf[(z : Nat)]? = some (some (.int x))) (h : sm_S j k cs sl (pc + 1) lf (.int x :: st) M o) : sm_S j k cs sl pc lf st M o := by
  intro r hr n g0 g p l e R s m args below meth c Q hC hx hn hQ H locs ls hM hS hL
  exact lv_iload_n hC.1 hC.2.1 hd rfl (hL.2.2 _ _ hl) (h r hr n g0 g p l e R s m args below meth c Q hC hx hn hQ H locs ls hM hS hL)
theorem sd_iload {i : Nat} {x : Int32} (hd : decode k.2.1 pc = .ok (.iload i, 2)) (hl : lf[i]? = some (some (.int x))) (h : sm_S j k cs sl (pc + 2) lf (.int x :: st) M o) : sm_S j k cs sl pc lf st M o := by
  intro r hr n g0 g p l e R s m args below meth c Q hC hx hn hQ H locs ls hM hS hL
  exact lv_iload hC.1 hC.2.1 hd (hL.2.2 _ _ hl) (h r hr n g0 g p l e R s m args below meth c Q hC hx hn hQ H locs ls hM hS hL)
theorem sd_lload_n {z : Fin 4} {x : Int64} (hd : decode k.2.1 pc = .ok (.lload_n z, 1)) (hl : lf[(z : Nat)]? = some (some (.long x))) (h : sm_S j k cs sl (pc + 1) lf (.long x :: st) M o) : sm_S j k cs sl pc lf st M o := by
  intro r hr n g0 g p l e R s m args below meth c Q hC hx hn hQ H locs ls hM hS hL
  exact lv_lload_n hC.1 hC.2.1 hd rfl (hL.2.2 _ _ hl) (h r hr n g0 g p l e R s m args below meth c Q hC hx hn hQ H locs ls hM hS hL)
theorem sd_lload {i : Nat} {x : Int64} (hd : decode k.2.1 pc = .ok (.lload i, 2)) (hl : lf[i]? = some (some (.long x))) (h : sm_S j k cs sl (pc + 2) lf (.long x :: st) M o) : sm_S j k cs sl pc lf st M o := by
  intro r hr n g0 g p l e R s m args below meth c Q hC hx hn hQ H locs ls hM hS hL
  exact lv_lload hC.1 hC.2.1 hd (hL.2.2 _ _ hl) (h r hr n g0 g p l e R s m args below meth c Q hC hx hn hQ H locs ls hM hS hL)
theorem sd_aload_n {z : Fin 4} {x : Nat} (hd : decode k.2.1 pc = .ok (.aload_n z, 1)) (hl : lf[(z : Nat)]? = some (some (.ref x))) (h : sm_S j k cs sl (pc + 1) lf (.ref x :: st) M o) : sm_S j k cs sl pc lf st M o := by
  intro r hr n g0 g p l e R s m args below meth c Q hC hx hn hQ H locs ls hM hS hL
  exact lv_aload_n hC.1 hC.2.1 hd rfl (hL.2.2 _ _ hl) (h r hr n g0 g p l e R s m args below meth c Q hC hx hn hQ H locs ls hM hS hL)
theorem sd_aload {i : Nat} {x : Nat} (hd : decode k.2.1 pc = .ok (.aload i, 2)) (hl : lf[i]? = some (some (.ref x))) (h : sm_S j k cs sl (pc + 2) lf (.ref x :: st) M o) : sm_S j k cs sl pc lf st M o := by
  intro r hr n g0 g p l e R s m args below meth c Q hC hx hn hQ H locs ls hM hS hL
  exact lv_aload hC.1 hC.2.1 hd (hL.2.2 _ _ hl) (h r hr n g0 g p l e R s m args below meth c Q hC hx hn hQ H locs ls hM hS hL)
theorem sd_iadd {x y : Int32} (hd : decode k.2.1 pc = .ok (.iadd, 1)) (h : sm_S j k cs sl (pc + 1) lf (.int (x + y) :: st) M o) : sm_S j k cs sl pc lf (.int y :: .int x :: st) M o := by
  intro r hr n g0 g p l e R s m args below meth c Q hC hx hn hQ H locs ls hM hS hL
  exact lv_iadd hC.1 hC.2.1 hd (h r hr n g0 g p l e R s m args below meth c Q hC hx hn hQ H locs ls hM hS hL)
theorem sd_isub {x y : Int32} (hd : decode k.2.1 pc = .ok (.isub, 1)) (h : sm_S j k cs sl (pc + 1) lf (.int (x - y) :: st) M o) : sm_S j k cs sl pc lf (.int y :: .int x :: st) M o := by
  intro r hr n g0 g p l e R s m args below meth c Q hC hx hn hQ H locs ls hM hS hL
  exact lv_isub hC.1 hC.2.1 hd (h r hr n g0 g p l e R s m args below meth c Q hC hx hn hQ H locs ls hM hS hL)
theorem sd_imul {x y : Int32} (hd : decode k.2.1 pc = .ok (.imul, 1)) (h : sm_S j k cs sl (pc + 1) lf (.int (x * y) :: st) M o) : sm_S j k cs sl pc lf (.int y :: .int x :: st) M o := by
  intro r hr n g0 g p l e R s m args below meth c Q hC hx hn hQ H locs ls hM hS hL
  exact lv_imul hC.1 hC.2.1 hd (h r hr n g0 g p l e R s m args below meth c Q hC hx hn hQ H locs ls hM hS hL)
theorem sd_iand {x y : Int32} (hd : decode k.2.1 pc = .ok (.iand, 1)) (h : sm_S j k cs sl (pc + 1) lf (.int (x &&& y) :: st) M o) : sm_S j k cs sl pc lf (.int y :: .int x :: st) M o := by
  intro r hr n g0 g p l e R s m args below meth c Q hC hx hn hQ H locs ls hM hS hL
  exact lv_iand hC.1 hC.2.1 hd (h r hr n g0 g p l e R s m args below meth c Q hC hx hn hQ H locs ls hM hS hL)
theorem sd_ior {x y : Int32} (hd : decode k.2.1 pc = .ok (.ior, 1)) (h : sm_S j k cs sl (pc + 1) lf (.int (x ||| y) :: st) M o) : sm_S j k cs sl pc lf (.int y :: .int x :: st) M o := by
  intro r hr n g0 g p l e R s m args below meth c Q hC hx hn hQ H locs ls hM hS hL
  exact lv_ior hC.1 hC.2.1 hd (h r hr n g0 g p l e R s m args below meth c Q hC hx hn hQ H locs ls hM hS hL)
theorem sd_ishl {x y : Int32} (hd : decode k.2.1 pc = .ok (.ishl, 1)) (h : sm_S j k cs sl (pc + 1) lf (.int (x <<< (y &&& 31)) :: st) M o) : sm_S j k cs sl pc lf (.int y :: .int x :: st) M o := by
  intro r hr n g0 g p l e R s m args below meth c Q hC hx hn hQ H locs ls hM hS hL
  exact lv_ishl hC.1 hC.2.1 hd (h r hr n g0 g p l e R s m args below meth c Q hC hx hn hQ H locs ls hM hS hL)
theorem sd_ishr {x y : Int32} (hd : decode k.2.1 pc = .ok (.ishr, 1)) (h : sm_S j k cs sl (pc + 1) lf (.int (x >>> (y &&& 31)) :: st) M o) : sm_S j k cs sl pc lf (.int y :: .int x :: st) M o := by
  intro r hr n g0 g p l e R s m args below meth c Q hC hx hn hQ H locs ls hM hS hL
  exact lv_ishr hC.1 hC.2.1 hd (h r hr n g0 g p l e R s m args below meth c Q hC hx hn hQ H locs ls hM hS hL)
def sm_us (x y : Int32) : Int32 := (x.toUInt32 >>> (y.toUInt32 &&& Int32.toUInt32 31)).toInt32
theorem sd_iushr {x y : Int32} (hd : decode k.2.1 pc = .ok (.iushr, 1)) (h : sm_S j k cs sl (pc + 1) lf (.int (sm_us x y) :: st) M o) : sm_S j k cs sl pc lf (.int y :: .int x :: st) M o := by
  intro r hr n g0 g p l e R s m args below meth c Q hC hx hn hQ H locs ls hM hS hL
  exact lv_iushr hC.1 hC.2.1 hd rfl (h r hr n g0 g p l e R s m args below meth c Q hC hx hn hQ H locs ls hM hS hL)
def sm_ir (x y : Int32) : Int32 := x - x / y * y
def sm_lr (x y : Int64) : Int64 := x - x / y * y
theorem sd_idiv {x y : Int32} (hd : decode k.2.1 pc = .ok (.idiv, 1)) (hy : ¬ y = 0) (h : sm_S j k cs sl (pc + 1) lf (.int (x / y) :: st) M o) : sm_S j k cs sl pc lf (.int y :: .int x :: st) M o := by
  intro r hr n g0 g p l e R s m args below meth c Q hC hx hn hQ H locs ls hM hS hL
  exact lv_idiv hC.1 hC.2.1 hd hy (h r hr n g0 g p l e R s m args below meth c Q hC hx hn hQ H locs ls hM hS hL)
theorem sd_irem {x y : Int32} (hd : decode k.2.1 pc = .ok (.irem, 1)) (hy : ¬ y = 0) (h : sm_S j k cs sl (pc + 1) lf (.int (sm_ir x y) :: st) M o) : sm_S j k cs sl pc lf (.int y :: .int x :: st) M o := by
  intro r hr n g0 g p l e R s m args below meth c Q hC hx hn hQ H locs ls hM hS hL
  exact lv_irem hC.1 hC.2.1 hd hy (h r hr n g0 g p l e R s m args below meth c Q hC hx hn hQ H locs ls hM hS hL)
theorem sd_ladd {x y : Int64} (hd : decode k.2.1 pc = .ok (.ladd, 1)) (h : sm_S j k cs sl (pc + 1) lf (.long (x + y) :: st) M o) : sm_S j k cs sl pc lf (.long y :: .long x :: st) M o := by
  intro r hr n g0 g p l e R s m args below meth c Q hC hx hn hQ H locs ls hM hS hL
  exact lv_ladd hC.1 hC.2.1 hd (h r hr n g0 g p l e R s m args below meth c Q hC hx hn hQ H locs ls hM hS hL)
theorem sd_lsub {x y : Int64} (hd : decode k.2.1 pc = .ok (.lsub, 1)) (h : sm_S j k cs sl (pc + 1) lf (.long (x - y) :: st) M o) : sm_S j k cs sl pc lf (.long y :: .long x :: st) M o := by
  intro r hr n g0 g p l e R s m args below meth c Q hC hx hn hQ H locs ls hM hS hL
  exact lv_lsub hC.1 hC.2.1 hd (h r hr n g0 g p l e R s m args below meth c Q hC hx hn hQ H locs ls hM hS hL)
theorem sd_lmul {x y : Int64} (hd : decode k.2.1 pc = .ok (.lmul, 1)) (h : sm_S j k cs sl (pc + 1) lf (.long (x * y) :: st) M o) : sm_S j k cs sl pc lf (.long y :: .long x :: st) M o := by
  intro r hr n g0 g p l e R s m args below meth c Q hC hx hn hQ H locs ls hM hS hL
  exact lv_lmul hC.1 hC.2.1 hd (h r hr n g0 g p l e R s m args below meth c Q hC hx hn hQ H locs ls hM hS hL)
theorem sd_ldiv {x y : Int64} (hd : decode k.2.1 pc = .ok (.ldiv, 1)) (hy : ¬ y = 0) (h : sm_S j k cs sl (pc + 1) lf (.long (x / y) :: st) M o) : sm_S j k cs sl pc lf (.long y :: .long x :: st) M o := by
  intro r hr n g0 g p l e R s m args below meth c Q hC hx hn hQ H locs ls hM hS hL
  exact lv_ldiv hC.1 hC.2.1 hd hy (h r hr n g0 g p l e R s m args below meth c Q hC hx hn hQ H locs ls hM hS hL)
theorem sd_lrem {x y : Int64} (hd : decode k.2.1 pc = .ok (.lrem, 1)) (hy : ¬ y = 0) (h : sm_S j k cs sl (pc + 1) lf (.long (sm_lr x y) :: st) M o) : sm_S j k cs sl pc lf (.long y :: .long x :: st) M o := by
  intro r hr n g0 g p l e R s m args below meth c Q hC hx hn hQ H locs ls hM hS hL
  exact lv_lrem hC.1 hC.2.1 hd hy (h r hr n g0 g p l e R s m args below meth c Q hC hx hn hQ H locs ls hM hS hL)
def sm_ls (x : Int64) (y : Int32) : Int64 := x <<< (y.toInt64 &&& 63)
theorem sd_lshl {x : Int64} {y : Int32} (hd : decode k.2.1 pc = .ok (.lshl, 1)) (h : sm_S j k cs sl (pc + 1) lf (.long (sm_ls x y) :: st) M o) : sm_S j k cs sl pc lf (.int y :: .long x :: st) M o := by
  intro r hr n g0 g p l e R s m args below meth c Q hC hx hn hQ H locs ls hM hS hL
  exact lv_lshl hC.1 hC.2.1 hd rfl (h r hr n g0 g p l e R s m args below meth c Q hC hx hn hQ H locs ls hM hS hL)
theorem sd_ineg {x : Int32} (hd : decode k.2.1 pc = .ok (.ineg, 1)) (h : sm_S j k cs sl (pc + 1) lf (.int (-x) :: st) M o) : sm_S j k cs sl pc lf (.int x :: st) M o := by
  intro r hr n g0 g p l e R s m args below meth c Q hC hx hn hQ H locs ls hM hS hL
  exact lv_ineg hC.1 hC.2.1 hd (h r hr n g0 g p l e R s m args below meth c Q hC hx hn hQ H locs ls hM hS hL)
theorem sd_lneg {x : Int64} (hd : decode k.2.1 pc = .ok (.lneg, 1)) (h : sm_S j k cs sl (pc + 1) lf (.long (-x) :: st) M o) : sm_S j k cs sl pc lf (.long x :: st) M o := by
  intro r hr n g0 g p l e R s m args below meth c Q hC hx hn hQ H locs ls hM hS hL
  exact lv_lneg hC.1 hC.2.1 hd (h r hr n g0 g p l e R s m args below meth c Q hC hx hn hQ H locs ls hM hS hL)
theorem sd_i2l {x : Int32} (hd : decode k.2.1 pc = .ok (.i2l, 1)) (h : sm_S j k cs sl (pc + 1) lf (.long x.toInt64 :: st) M o) : sm_S j k cs sl pc lf (.int x :: st) M o := by
  intro r hr n g0 g p l e R s m args below meth c Q hC hx hn hQ H locs ls hM hS hL
  exact lv_i2l hC.1 hC.2.1 hd rfl (h r hr n g0 g p l e R s m args below meth c Q hC hx hn hQ H locs ls hM hS hL)
theorem sd_l2i {x : Int64} (hd : decode k.2.1 pc = .ok (.l2i, 1)) (h : sm_S j k cs sl (pc + 1) lf (.int x.toInt32 :: st) M o) : sm_S j k cs sl pc lf (.long x :: st) M o := by
  intro r hr n g0 g p l e R s m args below meth c Q hC hx hn hQ H locs ls hM hS hL
  exact lv_l2i hC.1 hC.2.1 hd rfl (h r hr n g0 g p l e R s m args below meth c Q hC hx hn hQ H locs ls hM hS hL)
theorem sd_i2b {x : Int32} (hd : decode k.2.1 pc = .ok (.i2b, 1)) (h : sm_S j k cs sl (pc + 1) lf (.int x.toInt8.toInt32 :: st) M o) : sm_S j k cs sl pc lf (.int x :: st) M o := by
  intro r hr n g0 g p l e R s m args below meth c Q hC hx hn hQ H locs ls hM hS hL
  exact lv_i2b hC.1 hC.2.1 hd rfl (h r hr n g0 g p l e R s m args below meth c Q hC hx hn hQ H locs ls hM hS hL)
theorem sd_dup {v : Value} (hd : decode k.2.1 pc = .ok (.dup, 1)) (hv : v.category = 1) (h : sm_S j k cs sl (pc + 1) lf (v :: v :: st) M o) : sm_S j k cs sl pc lf (v :: st) M o := by
  intro r hr n g0 g p l e R s m args below meth c Q hC hx hn hQ H locs ls hM hS hL
  exact lv_dup hC.1 hC.2.1 hd ((sm_tv_cat g v).trans hv) (h r hr n g0 g p l e R s m args below meth c Q hC hx hn hQ H locs ls hM hS hL)
theorem sd_pop {v : Value} (hd : decode k.2.1 pc = .ok (.pop, 1)) (hv : v.category = 1) (h : sm_S j k cs sl (pc + 1) lf st M o) : sm_S j k cs sl pc lf (v :: st) M o := by
  intro r hr n g0 g p l e R s m args below meth c Q hC hx hn hQ H locs ls hM hS hL
  exact lv_pop hC.1 hC.2.1 hd ((sm_tv_cat g v).trans hv) (h r hr n g0 g p l e R s m args below meth c Q hC hx hn hQ H locs ls hM hS hL)
theorem sd_dup2 {u v : Value} (hd : decode k.2.1 pc = .ok (.dup2, 1)) (hu : u.category = 1) (hv : v.category = 1) (h : sm_S j k cs sl (pc + 1) lf (u :: v :: u :: v :: st) M o) : sm_S j k cs sl pc lf (u :: v :: st) M o := by
  intro r hr n g0 g p l e R s m args below meth c Q hC hx hn hQ H locs ls hM hS hL
  exact lv_dup2_11 hC.1 hC.2.1 hd ((sm_tv_cat g u).trans hu) ((sm_tv_cat g v).trans hv) (h r hr n g0 g p l e R s m args below meth c Q hC hx hn hQ H locs ls hM hS hL)
theorem sd_goto {off : Int} (tgt : Nat) (hd : decode k.2.1 pc = .ok (.goto off, 3)) (ht : (pc : Int) + off = (tgt : Int)) (h : sm_S j k cs sl tgt lf st M o) : sm_S j k cs sl pc lf st M o := by
  intro r hr n g0 g p l e R s m args below meth c Q hC hx hn hQ H locs ls hM hS hL
  exact lv_goto hC.1 hC.2.1 hd ht (h r hr n g0 g p l e R s m args below meth c Q hC hx hn hQ H locs ls hM hS hL)
theorem sd_if_lt {x : Int32} {off : Int} (tgt : Nat) (hd : decode k.2.1 pc = .ok (.ifCond .lt off, 3)) (ht : (pc : Int) + off = (tgt : Int)) (h1 : x < 0 → sm_S j k cs sl tgt lf st M o1) (h2 : ¬ x < 0 → sm_S j k cs sl (pc + 3) lf st M o2) : sm_S j k cs sl pc lf (.int x :: st) M (if x < 0 then o1 else o2) := by
  intro r hr n g0 g p l e R s m args below meth c Q hC hx hn hQ H locs ls hM hS hL
  exact lv_if_lt hC.1 hC.2.1 hd ht (fun q => h1 q r ((if_pos q).symm.trans hr) n g0 g p l e R s m args below meth c Q hC hx hn hQ H locs ls hM hS hL) (fun q => h2 q r ((if_neg q).symm.trans hr) n g0 g p l e R s m args below meth c Q hC hx hn hQ H locs ls hM hS hL)
theorem sd_if_ge {x : Int32} {off : Int} (tgt : Nat) (hd : decode k.2.1 pc = .ok (.ifCond .ge off, 3)) (ht : (pc : Int) + off = (tgt : Int)) (h1 : 0 ≤ x → sm_S j k cs sl tgt lf st M o1) (h2 : ¬ 0 ≤ x → sm_S j k cs sl (pc + 3) lf st M o2) : sm_S j k cs sl pc lf (.int x :: st) M (if 0 ≤ x then o1 else o2) := by
  intro r hr n g0 g p l e R s m args below meth c Q hC hx hn hQ H locs ls hM hS hL
  exact lv_if_ge hC.1 hC.2.1 hd ht (fun q => h1 q r ((if_pos q).symm.trans hr) n g0 g p l e R s m args below meth c Q hC hx hn hQ H locs ls hM hS hL) (fun q => h2 q r ((if_neg q).symm.trans hr) n g0 g p l e R s m args below meth c Q hC hx hn hQ H locs ls hM hS hL)
theorem sd_if_gt {x : Int32} {off : Int} (tgt : Nat) (hd : decode k.2.1 pc = .ok (.ifCond .gt off, 3)) (ht : (pc : Int) + off = (tgt : Int)) (h1 : 0 < x → sm_S j k cs sl tgt lf st M o1) (h2 : ¬ 0 < x → sm_S j k cs sl (pc + 3) lf st M o2) : sm_S j k cs sl pc lf (.int x :: st) M (if 0 < x then o1 else o2) := by
  intro r hr n g0 g p l e R s m args below meth c Q hC hx hn hQ H locs ls hM hS hL
  exact lv_if_gt hC.1 hC.2.1 hd ht (fun q => h1 q r ((if_pos q).symm.trans hr) n g0 g p l e R s m args below meth c Q hC hx hn hQ H locs ls hM hS hL) (fun q => h2 q r ((if_neg q).symm.trans hr) n g0 g p l e R s m args below meth c Q hC hx hn hQ H locs ls hM hS hL)
theorem sd_if_le {x : Int32} {off : Int} (tgt : Nat) (hd : decode k.2.1 pc = .ok (.ifCond .le off, 3)) (ht : (pc : Int) + off = (tgt : Int)) (h1 : x ≤ 0 → sm_S j k cs sl tgt lf st M o1) (h2 : ¬ x ≤ 0 → sm_S j k cs sl (pc + 3) lf st M o2) : sm_S j k cs sl pc lf (.int x :: st) M (if x ≤ 0 then o1 else o2) := by
  intro r hr n g0 g p l e R s m args below meth c Q hC hx hn hQ H locs ls hM hS hL
  exact lv_if_le hC.1 hC.2.1 hd ht (fun q => h1 q r ((if_pos q).symm.trans hr) n g0 g p l e R s m args below meth c Q hC hx hn hQ H locs ls hM hS hL) (fun q => h2 q r ((if_neg q).symm.trans hr) n g0 g p l e R s m args below meth c Q hC hx hn hQ H locs ls hM hS hL)
theorem sd_if_eq {x : Int32} {off : Int} (tgt : Nat) (hd : decode k.2.1 pc = .ok (.ifCond .eq off, 3)) (ht : (pc : Int) + off = (tgt : Int)) (h1 : x = 0 → sm_S j k cs sl tgt lf st M o1) (h2 : ¬ x = 0 → sm_S j k cs sl (pc + 3) lf st M o2) : sm_S j k cs sl pc lf (.int x :: st) M (if x = 0 then o1 else o2) := by
  intro r hr n g0 g p l e R s m args below meth c Q hC hx hn hQ H locs ls hM hS hL
  exact lv_if_eq hC.1 hC.2.1 hd ht (fun q => h1 q r ((if_pos q).symm.trans hr) n g0 g p l e R s m args below meth c Q hC hx hn hQ H locs ls hM hS hL) (fun q => h2 q r ((if_neg q).symm.trans hr) n g0 g p l e R s m args below meth c Q hC hx hn hQ H locs ls hM hS hL)
theorem sd_if_ne {x : Int32} {off : Int} (tgt : Nat) (hd : decode k.2.1 pc = .ok (.ifCond .ne off, 3)) (ht : (pc : Int) + off = (tgt : Int)) (h1 : x = 0 → sm_S j k cs sl (pc + 3) lf st M o1) (h2 : ¬ x = 0 → sm_S j k cs sl tgt lf st M o2) : sm_S j k cs sl pc lf (.int x :: st) M (if x = 0 then o1 else o2) := by
  intro r hr n g0 g p l e R s m args below meth c Q hC hx hn hQ H locs ls hM hS hL
  exact lv_if_ne hC.1 hC.2.1 hd ht (fun q => h2 q r ((if_neg q).symm.trans hr) n g0 g p l e R s m args below meth c Q hC hx hn hQ H locs ls hM hS hL) (fun q => h1 q r ((if_pos q).symm.trans hr) n g0 g p l e R s m args below meth c Q hC hx hn hQ H locs ls hM hS hL)
theorem sd_ic_lt {x y : Int32} {off : Int} (tgt : Nat) (hd : decode k.2.1 pc = .ok (.if_icmp .lt off, 3)) (ht : (pc : Int) + off = (tgt : Int)) (h1 : x < y → sm_S j k cs sl tgt lf st M o1) (h2 : ¬ x < y → sm_S j k cs sl (pc + 3) lf st M o2) : sm_S j k cs sl pc lf (.int y :: .int x :: st) M (if x < y then o1 else o2) := by
  intro r hr n g0 g p l e R s m args below meth c Q hC hx hn hQ H locs ls hM hS hL
  exact lv_icmp_lt hC.1 hC.2.1 hd ht (fun q => h1 q r ((if_pos q).symm.trans hr) n g0 g p l e R s m args below meth c Q hC hx hn hQ H locs ls hM hS hL) (fun q => h2 q r ((if_neg q).symm.trans hr) n g0 g p l e R s m args below meth c Q hC hx hn hQ H locs ls hM hS hL)
theorem sd_ic_ge {x y : Int32} {off : Int} (tgt : Nat) (hd : decode k.2.1 pc = .ok (.if_icmp .ge off, 3)) (ht : (pc : Int) + off = (tgt : Int)) (h1 : y ≤ x → sm_S j k cs sl tgt lf st M o1) (h2 : ¬ y ≤ x → sm_S j k cs sl (pc + 3) lf st M o2) : sm_S j k cs sl pc lf (.int y :: .int x :: st) M (if y ≤ x then o1 else o2) := by
  intro r hr n g0 g p l e R s m args below meth c Q hC hx hn hQ H locs ls hM hS hL
  exact lv_icmp_ge hC.1 hC.2.1 hd ht (fun q => h1 q r ((if_pos q).symm.trans hr) n g0 g p l e R s m args below meth c Q hC hx hn hQ H locs ls hM hS hL) (fun q => h2 q r ((if_neg q).symm.trans hr) n g0 g p l e R s m args below meth c Q hC hx hn hQ H locs ls hM hS hL)
theorem sd_ic_gt {x y : Int32} {off : Int} (tgt : Nat) (hd : decode k.2.1 pc = .ok (.if_icmp .gt off, 3)) (ht : (pc : Int) + off = (tgt : Int)) (h1 : y < x → sm_S j k cs sl tgt lf st M o1) (h2 : ¬ y < x → sm_S j k cs sl (pc + 3) lf st M o2) : sm_S j k cs sl pc lf (.int y :: .int x :: st) M (if y < x then o1 else o2) := by
  intro r hr n g0 g p l e R s m args below meth c Q hC hx hn hQ H locs ls hM hS hL
  exact lv_icmp_gt hC.1 hC.2.1 hd ht (fun q => h1 q r ((if_pos q).symm.trans hr) n g0 g p l e R s m args below meth c Q hC hx hn hQ H locs ls hM hS hL) (fun q => h2 q r ((if_neg q).symm.trans hr) n g0 g p l e R s m args below meth c Q hC hx hn hQ H locs ls hM hS hL)
theorem sd_ic_le {x y : Int32} {off : Int} (tgt : Nat) (hd : decode k.2.1 pc = .ok (.if_icmp .le off, 3)) (ht : (pc : Int) + off = (tgt : Int)) (h1 : x ≤ y → sm_S j k cs sl tgt lf st M o1) (h2 : ¬ x ≤ y → sm_S j k cs sl (pc + 3) lf st M o2) : sm_S j k cs sl pc lf (.int y :: .int x :: st) M (if x ≤ y then o1 else o2) := by
  intro r hr n g0 g p l e R s m args below meth c Q hC hx hn hQ H locs ls hM hS hL
  exact lv_icmp_le hC.1 hC.2.1 hd ht (fun q => h1 q r ((if_pos q).symm.trans hr) n g0 g p l e R s m args below meth c Q hC hx hn hQ H locs ls hM hS hL) (fun q => h2 q r ((if_neg q).symm.trans hr) n g0 g p l e R s m args below meth c Q hC hx hn hQ H locs ls hM hS hL)
theorem sd_ic_eq {x y : Int32} {off : Int} (tgt : Nat) (hd : decode k.2.1 pc = .ok (.if_icmp .eq off, 3)) (ht : (pc : Int) + off = (tgt : Int)) (h1 : x = y → sm_S j k cs sl tgt lf st M o1) (h2 : ¬ x = y → sm_S j k cs sl (pc + 3) lf st M o2) : sm_S j k cs sl pc lf (.int y :: .int x :: st) M (if x = y then o1 else o2) := by
  intro r hr n g0 g p l e R s m args below meth c Q hC hx hn hQ H locs ls hM hS hL
  exact lv_icmp_eq hC.1 hC.2.1 hd ht (fun q => h1 q r ((if_pos q).symm.trans hr) n g0 g p l e R s m args below meth c Q hC hx hn hQ H locs ls hM hS hL) (fun q => h2 q r ((if_neg q).symm.trans hr) n g0 g p l e R s m args below meth c Q hC hx hn hQ H locs ls hM hS hL)
theorem sd_ic_ne {x y : Int32} {off : Int} (tgt : Nat) (hd : decode k.2.1 pc = .ok (.if_icmp .ne off, 3)) (ht : (pc : Int) + off = (tgt : Int)) (h1 : x = y → sm_S j k cs sl (pc + 3) lf st M o1) (h2 : ¬ x = y → sm_S j k cs sl tgt lf st M o2) : sm_S j k cs sl pc lf (.int y :: .int x :: st) M (if x = y then o1 else o2) := by
  intro r hr n g0 g p l e R s m args below meth c Q hC hx hn hQ H locs ls hM hS hL
  exact lv_icmp_ne hC.1 hC.2.1 hd ht (fun q => h2 q r ((if_neg q).symm.trans hr) n g0 g p l e R s m args below meth c Q hC hx hn hQ H locs ls hM hS hL) (fun q => h1 q r ((if_pos q).symm.trans hr) n g0 g p l e R s m args below meth c Q hC hx hn hQ H locs ls hM hS hL)
theorem sd_lc_lt {x y : Int64} {off : Int} (tgt : Nat) (hd0 : decode k.2.1 pc = .ok (.lcmp, 1)) (hd : decode k.2.1 (pc + 1) = .ok (.ifCond .lt off, 3)) (ht : ((pc + 1 : Nat) : Int) + off = (tgt : Int)) (h1 : x < y → sm_S j k cs sl tgt lf st M o1) (h2 : ¬ x < y → sm_S j k cs sl (pc + 4) lf st M o2) : sm_S j k cs sl pc lf (.long y :: .long x :: st) M (if x < y then o1 else o2) := by
  intro r hr n g0 g p l e R s m args below meth c Q hC hx hn hQ H locs ls hM hS hL
  refine W.lcmp hC.1 hC.2.1 hd0 ?_
  exact lv_if_lt hC.1 hC.2.1 hd ht (fun q => h1 ((lg_cmp_lt x y).mp q) r ((if_pos ((lg_cmp_lt x y).mp q)).symm.trans hr) n g0 g p l e R s m args below meth c Q hC hx hn hQ H locs ls hM hS hL) (fun q => h2 (fun z => q ((lg_cmp_lt x y).mpr z)) r ((if_neg (fun z => q ((lg_cmp_lt x y).mpr z))).symm.trans hr) n g0 g p l e R s m args below meth c Q hC hx hn hQ H locs ls hM hS hL)
theorem sd_lc_ge {x y : Int64} {off : Int} (tgt : Nat) (hd0 : decode k.2.1 pc = .ok (.lcmp, 1)) (hd : decode k.2.1 (pc + 1) = .ok (.ifCond .ge off, 3)) (ht : ((pc + 1 : Nat) : Int) + off = (tgt : Int)) (h1 : y ≤ x → sm_S j k cs sl tgt lf st M o1) (h2 : ¬ y ≤ x → sm_S j k cs sl (pc + 4) lf st M o2) : sm_S j k cs sl pc lf (.long y :: .long x :: st) M (if y ≤ x then o1 else o2) := by
  intro r hr n g0 g p l e R s m args below meth c Q hC hx hn hQ H locs ls hM hS hL
  refine W.lcmp hC.1 hC.2.1 hd0 ?_
  exact lv_if_ge hC.1 hC.2.1 hd ht (fun q => h1 ((lg_cmp_ge x y).mp q) r ((if_pos ((lg_cmp_ge x y).mp q)).symm.trans hr) n g0 g p l e R s m args below meth c Q hC hx hn hQ H locs ls hM hS hL) (fun q => h2 (fun z => q ((lg_cmp_ge x y).mpr z)) r ((if_neg (fun z => q ((lg_cmp_ge x y).mpr z))).symm.trans hr) n g0 g p l e R s m args below meth c Q hC hx hn hQ H locs ls hM hS hL)
theorem sd_lc_gt {x y : Int64} {off : Int} (tgt : Nat) (hd0 : decode k.2.1 pc = .ok (.lcmp, 1)) (hd : decode k.2.1 (pc + 1) = .ok (.ifCond .gt off, 3)) (ht : ((pc + 1 : Nat) : Int) + off = (tgt : Int)) (h1 : y < x → sm_S j k cs sl tgt lf st M o1) (h2 : ¬ y < x → sm_S j k cs sl (pc + 4) lf st M o2) : sm_S j k cs sl pc lf (.long y :: .long x :: st) M (if y < x then o1 else o2) := by
  intro r hr n g0 g p l e R s m args below meth c Q hC hx hn hQ H locs ls hM hS hL
  refine W.lcmp hC.1 hC.2.1 hd0 ?_
  exact lv_if_gt hC.1 hC.2.1 hd ht (fun q => h1 ((lg_cmp_gt x y).mp q) r ((if_pos ((lg_cmp_gt x y).mp q)).symm.trans hr) n g0 g p l e R s m args below meth c Q hC hx hn hQ H locs ls hM hS hL) (fun q => h2 (fun z => q ((lg_cmp_gt x y).mpr z)) r ((if_neg (fun z => q ((lg_cmp_gt x y).mpr z))).symm.trans hr) n g0 g p l e R s m args below meth c Q hC hx hn hQ H locs ls hM hS hL)
theorem sd_lc_le {x y : Int64} {off : Int} (tgt : Nat) (hd0 : decode k.2.1 pc = .ok (.lcmp, 1)) (hd : decode k.2.1 (pc + 1) = .ok (.ifCond .le off, 3)) (ht : ((pc + 1 : Nat) : Int) + off = (tgt : Int)) (h1 : x ≤ y → sm_S j k cs sl tgt lf st M o1) (h2 : ¬ x ≤ y → sm_S j k cs sl (pc + 4) lf st M o2) : sm_S j k cs sl pc lf (.long y :: .long x :: st) M (if x ≤ y then o1 else o2) := by
  intro r hr n g0 g p l e R s m args below meth c Q hC hx hn hQ H locs ls hM hS hL
  refine W.lcmp hC.1 hC.2.1 hd0 ?_
  exact lv_if_le hC.1 hC.2.1 hd ht (fun q => h1 ((lg_cmp_le x y).mp q) r ((if_pos ((lg_cmp_le x y).mp q)).symm.trans hr) n g0 g p l e R s m args below meth c Q hC hx hn hQ H locs ls hM hS hL) (fun q => h2 (fun z => q ((lg_cmp_le x y).mpr z)) r ((if_neg (fun z => q ((lg_cmp_le x y).mpr z))).symm.trans hr) n g0 g p l e R s m args below meth c Q hC hx hn hQ H locs ls hM hS hL)
theorem sd_lc_eq {x y : Int64} {off : Int} (tgt : Nat) (hd0 : decode k.2.1 pc = .ok (.lcmp, 1)) (hd : decode k.2.1 (pc + 1) = .ok (.ifCond .eq off, 3)) (ht : ((pc + 1 : Nat) : Int) + off = (tgt : Int)) (h1 : x = y → sm_S j k cs sl tgt lf st M o1) (h2 : ¬ x = y → sm_S j k cs sl (pc + 4) lf st M o2) : sm_S j k cs sl pc lf (.long y :: .long x :: st) M (if x = y then o1 else o2) := by
  intro r hr n g0 g p l e R s m args below meth c Q hC hx hn hQ H locs ls hM hS hL
  refine W.lcmp hC.1 hC.2.1 hd0 ?_
  exact lv_if_eq hC.1 hC.2.1 hd ht (fun q => h1 ((lg_cmp_eq x y).mp q) r ((if_pos ((lg_cmp_eq x y).mp q)).symm.trans hr) n g0 g p l e R s m args below meth c Q hC hx hn hQ H locs ls hM hS hL) (fun q => h2 (fun z => q ((lg_cmp_eq x y).mpr z)) r ((if_neg (fun z => q ((lg_cmp_eq x y).mpr z))).symm.trans hr) n g0 g p l e R s m args below meth c Q hC hx hn hQ H locs ls hM hS hL)
theorem sd_lc_ne {x y : Int64} {off : Int} (tgt : Nat) (hd0 : decode k.2.1 pc = .ok (.lcmp, 1)) (hd : decode k.2.1 (pc + 1) = .ok (.ifCond .ne off, 3)) (ht : ((pc + 1 : Nat) : Int) + off = (tgt : Int)) (h1 : x = y → sm_S j k cs sl (pc + 4) lf st M o1) (h2 : ¬ x = y → sm_S j k cs sl tgt lf st M o2) : sm_S j k cs sl pc lf (.long y :: .long x :: st) M (if x = y then o1 else o2) := by
  intro r hr n g0 g p l e R s m args below meth c Q hC hx hn hQ H locs ls hM hS hL
  refine W.lcmp hC.1 hC.2.1 hd0 ?_
  exact lv_if_ne hC.1 hC.2.1 hd ht (fun q => h2 (fun z => q ((lg_cmp_eq x y).mpr z)) r ((if_neg (fun z => q ((lg_cmp_eq x y).mpr z))).symm.trans hr) n g0 g p l e R s m args below meth c Q hC hx hn hQ H locs ls hM hS hL) (fun q => h1 ((lg_cmp_eq x y).mp q) r ((if_pos ((lg_cmp_eq x y).mp q)).symm.trans hr) n g0 g p l e R s m args below meth c Q hC hx hn hQ H locs ls hM hS hL)
theorem sd_none : sm_S j k cs sl pc lf st M (none : Option ρ) := by
  intro r hr
  cases hr
theorem sd_ite {c : Prop} [Decidable c] (h1 : c → sm_S j k cs sl pc lf st M o1) (h2 : ¬ c → sm_S j k cs sl pc lf st M o2) : sm_S j k cs sl pc lf st M (if c then o1 else o2) := by
  by_cases q : c
  · rw [if_pos q]; exact h1 q
  · rw [if_neg q]; exact h2 q
theorem sd_eq (he : o = o1) (h : sm_S j k cs sl pc lf st M o1) : sm_S j k cs sl pc lf st M o := he ▸ h
/-- fewer locals known -/
def sm_fg : List (Option Value) → List Bool → List (Option Value)
  | [], _ => []
  | l, [] => l
  | x :: l, b :: m => (if b then x else none) :: sm_fg l m
theorem sm_fg_at : ∀ (l : List (Option Value)) (m : List Bool) (i : Nat) (v : Value), (sm_fg l m)[i]? = some (some v) → l[i]? = some (some v)
  | [], _, _, _, h => by simp [sm_fg] at h
  | x :: l, [], i, v, h => h
  | x :: l, b :: m, 0, v, h => by
    cases b
    · simp [sm_fg] at h
    · simpa [sm_fg] using h
  | x :: l, b :: m, i + 1, v, h => by
    simp only [sm_fg, List.getElem?_cons_succ] at h ⊢
    exact sm_fg_at l m i v h
theorem sd_fg (m : List Bool) (he : sm_fg lf m = lf2) (h : sm_S j k cs sl pc lf2 st M o) : sm_S j k cs sl pc lf st M o := by
  intro r hr n g0 g p l e R s m2 args below meth c Q hC hx hn hQ H locs ls hM hS hL
  exact h r hr n g0 g p l e R s m2 args below meth c Q hC hx hn hQ H locs ls hM hS ⟨hL.1, hL.2.1, fun i v hv => hL.2.2 i v (sm_fg_at lf m i v (he ▸ hv))⟩
/-- stores into locals -/
def sm_kl (lf : List (Option Value)) (i : Nat) : List (Option Value) := match i with
  | 0 => lf
  | i + 1 => match lf[i]? with
    | some (some (.long _)) => lf.set i none
    | some (some (.double _)) => lf.set i none
    | _ => lf
def sm_s1 (lf : List (Option Value)) (i : Nat) (v : Value) : List (Option Value) := (sm_kl lf i).set i (some v)
def sm_s2 (lf : List (Option Value)) (i : Nat) (v : Value) : List (Option Value) := ((sm_kl lf i).set i (some v)).set (i + 1) none
def sm_ll (g : sm_G) (lf : List (Option Value)) : List (Nat × Value) := lf.zipIdx.filterMap (fun q => q.1.map (fun v => (q.2, sm_tv g v)))
theorem sm_ll_in {g : sm_G} {lf : List (Option Value)} {i : Nat} {v : Value} (h : lf[i]? = some (some v)) : (i, sm_tv g v) ∈ sm_ll g lf := by
  refine List.mem_filterMap.mpr ⟨(some v, i), ?_, rfl⟩
  rw [List.mem_zipIdx_iff_getElem?]
  exact h
theorem sm_ll_of {g : sm_G} {lf : List (Option Value)} {q : Nat × Value} (h : q ∈ sm_ll g lf) : ∃ v, lf[q.1]? = some (some v) ∧ q.2 = sm_tv g v := by
  obtain ⟨x, hx, he⟩ := List.mem_filterMap.mp h
  rw [List.mem_zipIdx_iff_getElem?] at hx
  obtain ⟨a, b⟩ := x
  cases a with
  | none => simp at he
  | some v => simp at he; subst he; exact ⟨v, hx, rfl⟩
theorem sm_L.lv {g : sm_G} {n : Nat} {lf : List (Option Value)} {ls : Array Slot} (h : sm_L g n lf ls) : lv_has ls n (sm_ll g lf) := by
  refine ⟨h.1, h.2.1, fun q hq => ?_⟩
  obtain ⟨v, h1, h2⟩ := sm_ll_of hq
  rw [h2]
  exact h.2.2 _ _ h1
theorem sm_kl_at {lf : List (Option Value)} {i x : Nat} {v : Value} (h : (sm_kl lf i)[x]? = some (some v)) : lf[x]? = some (some v) ∧ ¬ (x + 1 = i ∧ v.category = 2) := by
  cases i with
  | zero => exact ⟨h, fun q => by omega⟩
  | succ i =>
    unfold sm_kl at h
    by_cases hx : x = i
    · subst hx
      dsimp only at h
      split at h
      · rename_i he
        rw [List.getElem?_set_self (List.getElem?_eq_some_iff.mp he).1] at h
        cases h
      · rename_i he
        rw [List.getElem?_set_self (List.getElem?_eq_some_iff.mp he).1] at h
        cases h
      · rename_i h1 h2
        refine ⟨h, fun q => ?_⟩
        cases v with
        | long z => exact h1 z h
        | double z => exact h2 z h
        | _ => simp [Value.category] at q
    · refine ⟨?_, fun q => hx (by omega)⟩
      dsimp only at h
      split at h
      · rwa [List.getElem?_set_ne (Ne.symm hx)] at h
      · rwa [List.getElem?_set_ne (Ne.symm hx)] at h
      · exact h
theorem sm_s1_ok {g : sm_G} {n i : Nat} {lf : List (Option Value)} {v : Value} {ls' : Array Slot} (h' : lv_has ls' n ((i, sm_tv g v) :: (sm_ll g lf).filter (fun q => !(q.1 == i) && !(q.1 + 1 == i && q.2.category == 2)))) : sm_L g n (sm_s1 lf i v) ls' := by
  refine ⟨h'.1, h'.2.1, fun x u hu => ?_⟩
  unfold sm_s1 at hu
  by_cases e : x = i
  · subst e
    have hl : x < (sm_kl lf x).length := by
      have := (List.getElem?_eq_some_iff.mp hu).1
      rwa [List.length_set] at this
    rw [List.getElem?_set_self hl] at hu
    cases hu
    exact h'.2.2 _ List.mem_cons_self
  · rw [List.getElem?_set_ne (Ne.symm e)] at hu
    obtain ⟨h1, h2⟩ := sm_kl_at hu
    refine h'.2.2 _ (List.mem_cons_of_mem _ (List.mem_filter.mpr ⟨sm_ll_in h1, ?_⟩))
    have h3 : (sm_tv g u).category = u.category := sm_tv_cat g u
    simp only [h3]
    simp [e]
    omega
theorem sm_s2_ok {g : sm_G} {n i : Nat} {lf : List (Option Value)} {v : Value} {ls' : Array Slot} (h' : lv_has ls' n ((i, sm_tv g v) :: (sm_ll g lf).filter (fun q => !(q.1 == i) && (!(q.1 == i + 1) && !(q.1 + 1 == i && q.2.category == 2))))) : sm_L g n (sm_s2 lf i v) ls' := by
  refine ⟨h'.1, h'.2.1, fun x u hu => ?_⟩
  unfold sm_s2 at hu
  by_cases e1 : x = i + 1
  · subst e1
    have hl : i + 1 < ((sm_kl lf i).set i (some v)).length := by
      have := (List.getElem?_eq_some_iff.mp hu).1
      rwa [List.length_set] at this
    rw [List.getElem?_set_self hl] at hu
    cases hu
  · rw [List.getElem?_set_ne (Ne.symm e1)] at hu
    by_cases e : x = i
    · subst e
      have hl : x < (sm_kl lf x).length := by
        have := (List.getElem?_eq_some_iff.mp hu).1
        rwa [List.length_set] at this
      rw [List.getElem?_set_self hl] at hu
      cases hu
      exact h'.2.2 _ List.mem_cons_self
    · rw [List.getElem?_set_ne (Ne.symm e)] at hu
      obtain ⟨h1, h2⟩ := sm_kl_at hu
      refine h'.2.2 _ (List.mem_cons_of_mem _ (List.mem_filter.mpr ⟨sm_ll_in h1, ?_⟩))
      have h3 : (sm_tv g u).category = u.category := sm_tv_cat g u
      simp only [h3]
      simp [e, e1]
      omega
theorem sd_istore_n {z : Fin 4} {x : Int32} (hd : decode k.2.1 pc = .ok (.istore_n z, 1)) (hz : (z : Nat) < k.2.2.1) (he : sm_s1 lf (z : Nat) (.int x) = lf2) (h : sm_S j k cs sl (pc + 1) lf2 st M o) : sm_S j k cs sl pc lf (.int x :: st) M o := by
  intro r hr n g0 g p l e R s m args below meth c Q hC hx hn hQ H locs ls hM hS hL
  exact lv_istore_n hC.1 hC.2.1 hd rfl hL.lv hz rfl (fun ls2 h2 => h r hr n g0 g p l e R s m args below meth c Q hC hx hn hQ H locs ls2 hM hS (he ▸ sm_s1_ok (v := .int x) h2))
theorem sd_istore {i : Nat} {x : Int32} (hd : decode k.2.1 pc = .ok (.istore i, 2)) (hz : i < k.2.2.1) (he : sm_s1 lf i (.int x) = lf2) (h : sm_S j k cs sl (pc + 2) lf2 st M o) : sm_S j k cs sl pc lf (.int x :: st) M o := by
  intro r hr n g0 g p l e R s m args below meth c Q hC hx hn hQ H locs ls hM hS hL
  exact lv_istore hC.1 hC.2.1 hd hL.lv hz rfl (fun ls2 h2 => h r hr n g0 g p l e R s m args below meth c Q hC hx hn hQ H locs ls2 hM hS (he ▸ sm_s1_ok (v := .int x) h2))
theorem sd_astore_n {z : Fin 4} {x : Nat} (hd : decode k.2.1 pc = .ok (.astore_n z, 1)) (hz : (z : Nat) < k.2.2.1) (he : sm_s1 lf (z : Nat) (.ref x) = lf2) (h : sm_S j k cs sl (pc + 1) lf2 st M o) : sm_S j k cs sl pc lf (.ref x :: st) M o := by
  intro r hr n g0 g p l e R s m args below meth c Q hC hx hn hQ H locs ls hM hS hL
  exact lv_astore_n hC.1 hC.2.1 hd rfl hL.lv hz rfl (fun ls2 h2 => h r hr n g0 g p l e R s m args below meth c Q hC hx hn hQ H locs ls2 hM hS (he ▸ sm_s1_ok (v := .ref x) h2))
theorem sd_astore {i : Nat} {x : Nat} (hd : decode k.2.1 pc = .ok (.astore i, 2)) (hz : i < k.2.2.1) (he : sm_s1 lf i (.ref x) = lf2) (h : sm_S j k cs sl (pc + 2) lf2 st M o) : sm_S j k cs sl pc lf (.ref x :: st) M o := by
  intro r hr n g0 g p l e R s m args below meth c Q hC hx hn hQ H locs ls hM hS hL
  exact lv_astore hC.1 hC.2.1 hd hL.lv hz rfl (fun ls2 h2 => h r hr n g0 g p l e R s m args below meth c Q hC hx hn hQ H locs ls2 hM hS (he ▸ sm_s1_ok (v := .ref x) h2))
theorem sd_lstore_n {z : Fin 4} {x : Int64} (hd : decode k.2.1 pc = .ok (.lstore_n z, 1)) (hz : (z : Nat) + 1 < k.2.2.1) (he : sm_s2 lf (z : Nat) (.long x) = lf2) (h : sm_S j k cs sl (pc + 1) lf2 st M o) : sm_S j k cs sl pc lf (.long x :: st) M o := by
  intro r hr n g0 g p l e R s m args below meth c Q hC hx hn hQ H locs ls hM hS hL
  exact lv_lstore_n hC.1 hC.2.1 hd rfl hL.lv hz rfl (fun ls2 h2 => h r hr n g0 g p l e R s m args below meth c Q hC hx hn hQ H locs ls2 hM hS (he ▸ sm_s2_ok (v := .long x) h2))
theorem sd_lstore {i : Nat} {x : Int64} (hd : decode k.2.1 pc = .ok (.lstore i, 2)) (hz : i + 1 < k.2.2.1) (he : sm_s2 lf i (.long x) = lf2) (h : sm_S j k cs sl (pc + 2) lf2 st M o) : sm_S j k cs sl pc lf (.long x :: st) M o := by
  intro r hr n g0 g p l e R s m args below meth c Q hC hx hn hQ H locs ls hM hS hL
  exact lv_lstore hC.1 hC.2.1 hd hL.lv hz rfl (fun ls2 h2 => h r hr n g0 g p l e R s m args below meth c Q hC hx hn hQ H locs ls2 hM hS (he ▸ sm_s2_ok (v := .long x) h2))
theorem sd_iinc {i : Nat} {z : Int} {x cc : Int32} (hd : decode k.2.1 pc = .ok (.iinc i z, 3)) (hz : i < k.2.2.1) (hl : lf[i]? = some (some (.int x))) (hc : Int32.ofInt z = cc) (he : sm_s1 lf i (.int (x + cc)) = lf2) (h : sm_S j k cs sl (pc + 3) lf2 st M o) : sm_S j k cs sl pc lf st M o := by
  intro r hr n g0 g p l e R s m args below meth c Q hC hx hn hQ H locs ls hM hS hL
  obtain ⟨q, hq⟩ := List.getElem?_of_mem (sm_ll_in (g := g) hl)
  exact lv_iinc (v := x + cc) hC.1 hC.2.1 hd hL.lv hq (by rw [hc]) hz rfl (fun ls2 h2 => h r hr n g0 g p l e R s m args below meth c Q hC hx hn hQ H locs ls2 hM hS (he ▸ sm_s1_ok (v := .int (x + cc)) h2))
/-- a name for what is stored -/
def sm_n {α ρ : Type} (x : α) (K : α → Option ρ) : Option ρ := K x
theorem sd_ni {x : Int32} {K : Int32 → Option ρ} (h : ∀ y : Int32, sm_S j k cs sl pc lf (.int y :: st) M (K y)) : sm_S j k cs sl pc lf (.int x :: st) M (sm_n x K) := h x
theorem sd_nl {x : Int64} {K : Int64 → Option ρ} (h : ∀ y : Int64, sm_S j k cs sl pc lf (.long y :: st) M (K y)) : sm_S j k cs sl pc lf (.long x :: st) M (sm_n x K) := h x
theorem sd_swi {dflt lo hi : Int} {offs : Array Int} {len : Nat} {x : Int32} {off : Int} (tgt : Nat) (hd : decode k.2.1 pc = .ok (.tableswitch dflt lo hi offs, len)) (h1 : ¬ x.toInt < lo) (h2 : ¬ hi < x.toInt) (ho : offs[(x.toInt - lo).toNat]? = some off) (ht : (pc : Int) + off = (tgt : Int)) (h : sm_S j k cs sl tgt lf st M o) : sm_S j k cs sl pc lf (.int x :: st) M o := by
  intro r hr n g0 g p l e R s m args below meth c Q hC hx hn hQ H locs ls hM hS hL
  exact lv_tableIn hC.1 hC.2.1 hd h1 h2 ho ht (h r hr n g0 g p l e R s m args below meth c Q hC hx hn hQ H locs ls hM hS hL)
theorem sd_swo {dflt lo hi : Int} {offs : Array Int} {len : Nat} {x : Int32} (tgt : Nat) (hd : decode k.2.1 pc = .ok (.tableswitch dflt lo hi offs, len)) (hh : x.toInt < lo ∨ hi < x.toInt) (ht : (pc : Int) + dflt = (tgt : Int)) (h : sm_S j k cs sl tgt lf st M o) : sm_S j k cs sl pc lf (.int x :: st) M o := by
  intro r hr n g0 g p l e R s m args below meth c Q hC hx hn hQ H locs ls hM hS hL
  exact lv_tableOut hC.1 hC.2.1 hd hh ht (h r hr n g0 g p l e R s m args below meth c Q hC hx hn hQ H locs ls hM hS hL)
end
end
section
abbrev sm_t : Type := (Nat → Nat → Int32) × (Nat → Nat → Int64) × Nat × Nat × Option Nat
def sm_s0 (n : Nat) : sm_Sh := [.inl (.int, 8), .inl (.int, 8), .inl (.int, n), .inr 6, .inl (.array .int, 6), .inl (.int, 40), .inl (.int, 40), .inl (.int, 40), .inl (.int, 40), .inl (.int, 40), .inl (.int, 40), .inl (.int, 6), .inl (.array .byte, 4), .inl (.byte, 80), .inl (.byte, 80), .inl (.byte, 80), .inl (.byte, 80), .inl (.int, 4), .inr 1, .inr 2, .inl (.int, 6), .inl (.int, 7), .inr 0, .inl (.object "TwoFliers$Sign", 12), .inr 5, .inr 5, .inr 5, .inr 5, .inr 5, .inr 5, .inr 5, .inr 5, .inr 5, .inr 5, .inr 5, .inr 5, .inl (.array .int, 3), .inl (.int, 120), .inl (.int, 120), .inl (.int, 120), .inl (.long, 120), .inl (.long, 7), .inl (.long, 120), .inl (.long, 120), .inl (.boolean, 3), .inr 3, .inl (.int, 120), .inr 4, .inl (.int, 5), .inl (.int, 5), .inl (.int, 6), .inr 7, .inl (.int, 6), .inl (.int, 6), .inl (.int, 240), .inl (.int, 40), .inl (.int, 4), .inl (.int, 320), .inl (.int, 15), .inl (.boolean, 4), .inl (.int, 480), .inl (.int, 120), .inl (.int, 60), .inl (.long, 840), .inl (.long, 840), .inl (.long, 120), .inl (.int, 5), .inl (.int, 5), .inl (.int, 6)]
def sm_sq (a : Nat) : Option ((FieldType × Nat) ⊕ Nat) := if a < 3 then none else (sm_s0 0)[a]?
def sm_r0 (nw nx : Nat) (tx : Option Nat) (a k : Nat) : Option Nat :=
  if a = 3 then ([some 4, some 11, some 12, some 17, some 18, some 19, some 22, some 36, some 44, some 45, some 47, none, none, none, none, some 50] : List (Option Nat)).getD k none else if a = 18 then ([some 19, some 22, some 36, some 40, some 41, none, some nw, some nx] : List (Option Nat)).getD k none else if a = 19 then ([none, none, some 20, some 21] : List (Option Nat)).getD k none else if a = 22 then ([some 23, none] : List (Option Nat)).getD k none else if a = 45 then ([tx, none, none, none, some 46, none] : List (Option Nat)).getD k none else if a = 47 then ([some 48, some 49, none, none] : List (Option Nat)).getD k none else if a = 51 then ([none, some 52, none, none, none, some 53, some 54, some 55, some 56, some 57, some 58, some 59, some 60, some 61, none, none, none, none, some 62, none, some 63, some 64, some 65, none, some 66, some 67, none, none, some 68, none] : List (Option Nat)).getD k none else if a = 4 then (if k < 6 then some (5 + k) else none) else if a = 12 then (if k < 4 then some (13 + k) else none) else if a = 36 then (if k < 3 then some (37 + k) else none) else if a = 23 then (if k < 12 then some (24 + k) else none) else none
def sm_m (n : Nat) (S : sm_t) : sm_M := (sm_s0 n, S.1, S.2.1, sm_r0 S.2.2.1 S.2.2.2.1 S.2.2.2.2)
theorem sm_sq_at {a n : Nat} {S : sm_t} {x : (FieldType × Nat) ⊕ Nat} (h : sm_sq a = some x) : 3 ≤ a ∧ (sm_m n S).1[a]? = some x := by
  unfold sm_sq at h
  split at h
  · cases h
  · rename_i q
    refine ⟨by omega, ?_⟩
    obtain ⟨b, rfl⟩ : ∃ b, a = b + 3 := ⟨a - 3, by omega⟩
    exact h
def sm_ix (i : Int32) (n : Nat) : Bool := decide (¬ i < 0) && decide (i.toNatClampNeg < n)
theorem sm_ix_in {i : Int32} {n : Nat} (h : sm_ix i n = true) : vp_in i n := by
  simp only [sm_ix, Bool.and_eq_true, decide_eq_true_eq] at h
  exact fun q => q.elim h.1 (fun z => by omega)
def sm_rd {α ρ : Type} (f : Nat → α) (n : Nat) (i : Int32) (K : α → Option ρ) : Option ρ := if sm_ix i n = true then K (f i.toNatClampNeg) else none
def sm_an {ρ : Type} (ty : FieldType) (a : Nat) (K : Nat → Option ρ) : Option ρ := match sm_sq a with
  | some (.inl q) => if q.1 = ty then K q.2 else none
  | _ => none
def sm_on {ρ : Type} (ci a : Nat) (o : Option ρ) : Option ρ := if sm_sq a = some (.inr ci) then o else none
def sm_wI (S : sm_t) (a i : Nat) (x : Int32) : sm_t := (va_up S.1 a (upd (S.1 a) i x), S.2)
def sm_wL (S : sm_t) (a i : Nat) (x : Int64) : sm_t := (S.1, va_up S.2.1 a (vp_updL (S.2.1 a) i x), S.2.2)
def sm_wr {ρ : Type} (S : sm_t) (a n : Nat) (i x : Int32) (K : sm_t → Option ρ) : Option ρ := if sm_ix i n = true then K (sm_wI S a i.toNatClampNeg x) else none
def sm_wl {ρ : Type} (S : sm_t) (a n : Nat) (i : Int32) (x : Int64) (K : sm_t → Option ρ) : Option ρ := if sm_ix i n = true then K (sm_wL S a i.toNatClampNeg x) else none
theorem sm_R_set {g : sm_G} {M M' : sm_M} {H H1 : Heap} {a : Nat} {x : (FieldType × Nat) ⊕ Nat} {E : va_E} (hM : sm_R g M H) (hs : M'.1 = M.1) (ho : ∀ b, b ≠ a → M'.2.1 b = M.2.1 b ∧ M'.2.2.1 b = M.2.2.1 b ∧ M'.2.2.2 b = M.2.2.2 b) (h : M.1[a]? = some x) (h3 : 3 ≤ a) (hE : sm_ce g M' a x = E) (hP : va_P g.2.2.2.2.1 sm_cl ((sm_w g M).set (a - 3) (g.1 a, E)) H1) (hD : va_D (sm_A g) ((sm_w g M).set (a - 3) (g.1 a, E))) : sm_R g M' H1 := by
  rw [sm_w_set hs ho h h3 hE] at hP hD
  obtain ⟨⟨e1, e2, e3, e4, e5, e6⟩, -, -⟩ := hM
  exact ⟨⟨by rw [hs]; exact e1, by rw [hs]; exact e2, by rw [hs]; exact e3, (ho 0 (by omega)).1.trans e4, (ho 1 (by omega)).1.trans e5, (ho 2 (by omega)).1.trans e6⟩, hP, hD⟩
theorem sm_up_o {α : Type} (f : Nat → α) {a b : Nat} (x : α) (h : b ≠ a) : va_up f a x b = f b := if_neg h
theorem sm_up_s {α : Type} (f : Nat → α) (a : Nat) (x : α) : va_up f a x a = x := if_pos rfl
def sm_jI (n : Nat) : Int32 × sm_t → Option Value × sm_M := fun q => (some (.int q.1), sm_m n q.2)
def sm_jL (n : Nat) : Int64 × sm_t → Option Value × sm_M := fun q => (some (.long q.1), sm_m n q.2)
def sm_jV (n : Nat) : sm_t → Option Value × sm_M := fun q => (none, sm_m n q)
section
variable {ρ : Type} {j : ρ → Option Value × sm_M} {k : sm_K} {cs sl pc N : Nat} {lf : List (Option Value)} {st : List Value} {S : sm_t} {o : Option ρ}
theorem sd_an {M : sm_M} {ty : FieldType} {a : Nat} {K : Nat → Option ρ} (h : ∀ n, sm_sq a = some (.inl (ty, n)) → sm_S j k cs sl pc lf st M (K n)) : sm_S j k cs sl pc lf st M (sm_an ty a K) := by
  intro r hr
  unfold sm_an at hr
  split at hr
  · rename_i q e
    obtain ⟨t, n⟩ := q
    dsimp only at hr
    split at hr
    · rename_i z
      subst z
      exact h n e r hr
    · cases hr
  · cases hr
theorem sd_on {M : sm_M} {ci a : Nat} (h : sm_sq a = some (.inr ci) → sm_S j k cs sl pc lf st M o) : sm_S j k cs sl pc lf st M (sm_on ci a o) := by
  intro r hr
  unfold sm_on at hr
  split at hr
  · rename_i e
    exact h e r hr
  · cases hr
theorem sd_iald {a n : Nat} {i : Int32} {K : Int32 → Option ρ} (hs : sm_sq a = some (.inl (.int, n))) (hd : decode k.2.1 pc = .ok (.iaload, 1)) (h : ∀ v : Int32, sm_S j k cs sl (pc + 1) lf (.int v :: st) (sm_m N S) (K v)) : sm_S j k cs sl pc lf (.int i :: .ref a :: st) (sm_m N S) (sm_rd (S.1 a) n i K) := by
  intro r hr nn g0 g p l e R s m args below meth c Q hC hx hn hQ H locs ls hM hS hL
  unfold sm_rd at hr
  split at hr
  · rename_i hi
    obtain ⟨h3, hs'⟩ := sm_sq_at (n := N) (S := S) hs
    have hw : (sm_w g (sm_m N S))[a - 3]? = some (g.1 a, .inl (g.2.2.2.2.2 .int, n, .inl (S.1 a))) := sm_w_at hs' h3
    exact va_iald hC.1 hC.2.1 hC.2.2.2.2.2.2.2.2.2.1.1 hM.2.1 (a - 3) 0 hw rfl (sm_ix_in hi) hd (h _ r hr nn g0 g p l e R s m args below meth c Q hC hx hn hQ H locs ls hM hS hL)
  · cases hr
theorem sd_bald {a n : Nat} {i : Int32} {K : Int32 → Option ρ} (hs : sm_sq a = some (.inl (.byte, n))) (hd : decode k.2.1 pc = .ok (.baload, 1)) (h : ∀ v : Int32, sm_S j k cs sl (pc + 1) lf (.int v :: st) (sm_m N S) (K v)) : sm_S j k cs sl pc lf (.int i :: .ref a :: st) (sm_m N S) (sm_rd (S.1 a) n i K) := by
  intro r hr nn g0 g p l e R s m args below meth c Q hC hx hn hQ H locs ls hM hS hL
  unfold sm_rd at hr
  split at hr
  · rename_i hi
    obtain ⟨h3, hs'⟩ := sm_sq_at (n := N) (S := S) hs
    have hw : (sm_w g (sm_m N S))[a - 3]? = some (g.1 a, .inl (g.2.2.2.2.2 .byte, n, .inl (S.1 a))) := sm_w_at hs' h3
    exact va_bald hC.1 hC.2.1 hC.2.2.2.2.2.2.2.2.2.1.1 hM.2.1 (a - 3) 2 hw rfl (sm_ix_in hi) hd (h _ r hr nn g0 g p l e R s m args below meth c Q hC hx hn hQ H locs ls hM hS hL)
  · cases hr
theorem sd_zald {a n : Nat} {i : Int32} {K : Int32 → Option ρ} (hs : sm_sq a = some (.inl (.boolean, n))) (hd : decode k.2.1 pc = .ok (.baload, 1)) (h : ∀ v : Int32, sm_S j k cs sl (pc + 1) lf (.int v :: st) (sm_m N S) (K v)) : sm_S j k cs sl pc lf (.int i :: .ref a :: st) (sm_m N S) (sm_rd (S.1 a) n i K) := by
  intro r hr nn g0 g p l e R s m args below meth c Q hC hx hn hQ H locs ls hM hS hL
  unfold sm_rd at hr
  split at hr
  · rename_i hi
    obtain ⟨h3, hs'⟩ := sm_sq_at (n := N) (S := S) hs
    have hw : (sm_w g (sm_m N S))[a - 3]? = some (g.1 a, .inl (g.2.2.2.2.2 .boolean, n, .inl (S.1 a))) := sm_w_at hs' h3
    exact va_zald hC.1 hC.2.1 hC.2.2.2.2.2.2.2.2.2.1.1 hM.2.1 (a - 3) 3 hw rfl (sm_ix_in hi) hd (h _ r hr nn g0 g p l e R s m args below meth c Q hC hx hn hQ H locs ls hM hS hL)
  · cases hr
theorem sd_lald {a n : Nat} {i : Int32} {K : Int64 → Option ρ} (hs : sm_sq a = some (.inl (.long, n))) (hd : decode k.2.1 pc = .ok (.laload, 1)) (h : ∀ v : Int64, sm_S j k cs sl (pc + 1) lf (.long v :: st) (sm_m N S) (K v)) : sm_S j k cs sl pc lf (.int i :: .ref a :: st) (sm_m N S) (sm_rd (S.2.1 a) n i K) := by
  intro r hr nn g0 g p l e R s m args below meth c Q hC hx hn hQ H locs ls hM hS hL
  unfold sm_rd at hr
  split at hr
  · rename_i hi
    obtain ⟨h3, hs'⟩ := sm_sq_at (n := N) (S := S) hs
    have hw : (sm_w g (sm_m N S))[a - 3]? = some (g.1 a, .inl (g.2.2.2.2.2 .long, n, .inr (.inl (S.2.1 a)))) := sm_w_at hs' h3
    exact va_lald hC.1 hC.2.1 hC.2.2.2.2.2.2.2.2.2.1.1 hM.2.1 (a - 3) 1 hw rfl (sm_ix_in hi) hd (h _ r hr nn g0 g p l e R s m args below meth c Q hC hx hn hQ H locs ls hM hS hL)
  · cases hr
/-- a place of an array of cells that never change -/
theorem sd_aald {a n q : Nat} {ty : FieldType} {i : Int32} {K : Nat → Option ρ} (t0 : Nat) (hs : sm_sq a = some (.inl (ty, n))) (hk : sm_kd ty = 2) (hf : ty.isReference = true) (ht : ∀ g : sm_G, (sm_tys g)[t0]? = some (g.2.2.2.2.2 ty, ty)) (hr0 : ∀ (nw nx : Nat) (tx : Option Nat) (i : Nat), i < n → sm_r0 nw nx tx a i = some (q + i)) (hd : decode k.2.1 pc = .ok (.aaload, 1)) (h : ∀ b : Nat, sm_S j k cs sl (pc + 1) lf (.ref b :: st) (sm_m N S) (K b)) : sm_S j k cs sl pc lf (.int i :: .ref a :: st) (sm_m N S) (sm_rd (fun i => q + i) n i K) := by
  intro r hr nn g0 g p l e R s m args below meth c Q hC hx hn hQ H locs ls hM hS hL
  unfold sm_rd at hr
  split at hr
  · rename_i hi
    obtain ⟨h3, hs'⟩ := sm_sq_at (n := N) (S := S) hs
    have hw := sm_w_at (g := g) hs' h3
    simp only [sm_ce, sm_ar, hk] at hw
    have hin := sm_ix_in hi
    have hlt : i.toNatClampNeg < n := Nat.not_le.mp fun q => hin (Or.inr q)
    have hv : va_rf (((sm_m N S).2.2.2 a i.toNatClampNeg).map g.1) = .ref (g.1 (q + i.toNatClampNeg)) := by
      show va_rf ((sm_r0 S.2.2.1 S.2.2.2.1 S.2.2.2.2 a i.toNatClampNeg).map g.1) = _
      rw [hr0 _ _ _ _ hlt]
      rfl
    have hX := hC.2.2.2.2.2.2.2.2.2.1.1
    exact W.aald (v := .ref (g.1 (q + i.toNatClampNeg))) (ty := ty) hC.1 hC.2.1 (hM.2.1 (a - 3) _ hw) ((hX.2 t0 _ (ht g)).1 n (fun z => va_rf (((sm_m N S).2.2.2 a z).map g.1))) hf (fun q => by cases q) (by show ¬ (i < 0 ∨ (arrV _ _ _).slots.size ≤ _); rw [arrV_size]; exact hin) (by show (arrV _ _ _).slots[_]? = _; rw [arrV_read _ _ hlt, hv]) rfl rfl hd (h _ r hr nn g0 g p l e R s m args below meth c Q hC hx hn hQ H locs ls hM hS hL)
  · cases hr
theorem sd_iast {a n : Nat} {i x : Int32} {K : sm_t → Option ρ} (hs : sm_sq a = some (.inl (.int, n))) (hd : decode k.2.1 pc = .ok (.iastore, 1)) (h : ∀ S : sm_t, sm_S j k cs sl (pc + 1) lf st (sm_m N S) (K S)) : sm_S j k cs sl pc lf (.int x :: .int i :: .ref a :: st) (sm_m N S) (sm_wr S a n i x K) := by
  intro r hr nn g0 g p l e R s m args below meth c Q hC hx hn hQ H locs ls hM hS hL
  unfold sm_wr at hr
  split at hr
  · rename_i hi
    obtain ⟨h3, hs'⟩ := sm_sq_at (n := N) (S := S) hs
    have hw : (sm_w g (sm_m N S))[a - 3]? = some (g.1 a, .inl (g.2.2.2.2.2 .int, n, .inl (S.1 a))) := sm_w_at hs' h3
    refine va_iast hC.1 hC.2.1 hC.2.2.2.2.2.2.2.2.2.1.1 hM.2.1 hM.2.2 hS (a - 3) 0 hw rfl (sm_ix_in hi) hd (fun H1 locs1 hP1 hD1 hS1 => ?_)
    exact h _ r hr nn g0 g p l e R s m args below meth c Q hC hx hn hQ H1 locs1 ls (sm_R_set (M' := sm_m N (sm_wI S a i.toNatClampNeg x)) hM rfl (fun b hb => ⟨sm_up_o _ _ hb, rfl, rfl⟩) hs' h3 (by simp only [sm_ce, sm_ar, sm_kd, sm_m, sm_wI, sm_up_s]) hP1 hD1) hS1 hL
  · cases hr
theorem sd_bast {a n : Nat} {i x : Int32} {K : sm_t → Option ρ} (hs : sm_sq a = some (.inl (.byte, n))) (hd : decode k.2.1 pc = .ok (.bastore, 1)) (h : ∀ S : sm_t, sm_S j k cs sl (pc + 1) lf st (sm_m N S) (K S)) : sm_S j k cs sl pc lf (.int x :: .int i :: .ref a :: st) (sm_m N S) (sm_wr S a n i (vp_nar .byte x) K) := by
  intro r hr nn g0 g p l e R s m args below meth c Q hC hx hn hQ H locs ls hM hS hL
  unfold sm_wr at hr
  split at hr
  · rename_i hi
    obtain ⟨h3, hs'⟩ := sm_sq_at (n := N) (S := S) hs
    have hw : (sm_w g (sm_m N S))[a - 3]? = some (g.1 a, .inl (g.2.2.2.2.2 .byte, n, .inl (S.1 a))) := sm_w_at hs' h3
    refine va_bast hC.1 hC.2.1 hC.2.2.2.2.2.2.2.2.2.1.1 hM.2.1 hM.2.2 hS (a - 3) 2 hw rfl (sm_ix_in hi) hd (fun H1 locs1 hP1 hD1 hS1 => ?_)
    exact h _ r hr nn g0 g p l e R s m args below meth c Q hC hx hn hQ H1 locs1 ls (sm_R_set (M' := sm_m N (sm_wI S a i.toNatClampNeg (vp_nar .byte x))) hM rfl (fun b hb => ⟨sm_up_o _ _ hb, rfl, rfl⟩) hs' h3 (by simp only [sm_ce, sm_ar, sm_kd, sm_m, sm_wI, sm_up_s]) hP1 hD1) hS1 hL
  · cases hr
theorem sd_zast {a n : Nat} {i x : Int32} {K : sm_t → Option ρ} (hs : sm_sq a = some (.inl (.boolean, n))) (hd : decode k.2.1 pc = .ok (.bastore, 1)) (h : ∀ S : sm_t, sm_S j k cs sl (pc + 1) lf st (sm_m N S) (K S)) : sm_S j k cs sl pc lf (.int x :: .int i :: .ref a :: st) (sm_m N S) (sm_wr S a n i (vp_nar .boolean x) K) := by
  intro r hr nn g0 g p l e R s m args below meth c Q hC hx hn hQ H locs ls hM hS hL
  unfold sm_wr at hr
  split at hr
  · rename_i hi
    obtain ⟨h3, hs'⟩ := sm_sq_at (n := N) (S := S) hs
    have hw : (sm_w g (sm_m N S))[a - 3]? = some (g.1 a, .inl (g.2.2.2.2.2 .boolean, n, .inl (S.1 a))) := sm_w_at hs' h3
    refine va_zast hC.1 hC.2.1 hC.2.2.2.2.2.2.2.2.2.1.1 hM.2.1 hM.2.2 hS (a - 3) 3 hw rfl (sm_ix_in hi) hd (fun H1 locs1 hP1 hD1 hS1 => ?_)
    exact h _ r hr nn g0 g p l e R s m args below meth c Q hC hx hn hQ H1 locs1 ls (sm_R_set (M' := sm_m N (sm_wI S a i.toNatClampNeg (vp_nar .boolean x))) hM rfl (fun b hb => ⟨sm_up_o _ _ hb, rfl, rfl⟩) hs' h3 (by simp only [sm_ce, sm_ar, sm_kd, sm_m, sm_wI, sm_up_s]) hP1 hD1) hS1 hL
  · cases hr
theorem sd_last {a n : Nat} {i : Int32} {x : Int64} {K : sm_t → Option ρ} (hs : sm_sq a = some (.inl (.long, n))) (hd : decode k.2.1 pc = .ok (.lastore, 1)) (h : ∀ S : sm_t, sm_S j k cs sl (pc + 1) lf st (sm_m N S) (K S)) : sm_S j k cs sl pc lf (.long x :: .int i :: .ref a :: st) (sm_m N S) (sm_wl S a n i x K) := by
  intro r hr nn g0 g p l e R s m args below meth c Q hC hx hn hQ H locs ls hM hS hL
  unfold sm_wl at hr
  split at hr
  · rename_i hi
    obtain ⟨h3, hs'⟩ := sm_sq_at (n := N) (S := S) hs
    have hw : (sm_w g (sm_m N S))[a - 3]? = some (g.1 a, .inl (g.2.2.2.2.2 .long, n, .inr (.inl (S.2.1 a)))) := sm_w_at hs' h3
    refine va_last hC.1 hC.2.1 hC.2.2.2.2.2.2.2.2.2.1.1 hM.2.1 hM.2.2 hS (a - 3) 1 hw rfl (sm_ix_in hi) hd (fun H1 locs1 hP1 hD1 hS1 => ?_)
    exact h _ r hr nn g0 g p l e R s m args below meth c Q hC hx hn hQ H1 locs1 ls (sm_R_set (M' := sm_m N (sm_wL S a i.toNatClampNeg x)) hM rfl (fun b hb => ⟨rfl, sm_up_o _ _ hb, rfl⟩) hs' h3 (by simp only [sm_ce, sm_ar, sm_kd, sm_m, sm_wL, sm_up_s]) hP1 hD1) hS1 hL
  · cases hr
theorem sd_alen {a n : Nat} {ty : FieldType} (t0 : Nat) (v : Int32) (hs : sm_sq a = some (.inl (ty, n))) (ht : ∀ g : sm_G, (sm_tys g)[t0]? = some (g.2.2.2.2.2 ty, ty)) (hv : Int32.ofNat n = v) (hd : decode k.2.1 pc = .ok (.arraylength, 1)) (h : sm_S j k cs sl (pc + 1) lf (.int v :: st) (sm_m N S) o) : sm_S j k cs sl pc lf (.ref a :: st) (sm_m N S) o := by
  intro r hr nn g0 g p l e R s m args below meth c Q hC hx hn hQ H locs ls hM hS hL
  obtain ⟨h3, hs'⟩ := sm_sq_at (n := N) (S := S) hs
  have hw : (sm_w g (sm_m N S))[a - 3]? = some (g.1 a, .inl (g.2.2.2.2.2 ty, sm_ar g (sm_m N S) a ty n)) := sm_w_at hs' h3
  have hn1 : (sm_ar g (sm_m N S) a ty n).1 = n := by unfold sm_ar; split <;> rfl
  exact va_alen hC.1 hC.2.1 hC.2.2.2.2.2.2.2.2.2.1.1 hM.2.1 (a - 3) t0 hw (ht g) (v := v) (by rw [hn1]; exact hv) hd (h r hr nn g0 g p l e R s m args below meth c Q hC hx hn hQ H locs ls hM hS hL)
/-- a field's link: which slot of which of the classes -/
def sm_fl (own : String) (idx ci i : Nat) : Prop := ci < 8 ∧ i < sm_nf ci ∧ Cond.fieldLink own idx (sm_T ci i).1 (sm_T ci i).2.1 (sm_T ci i).2.2.1 ∈ sm_tb
theorem sm_fv_at {g : sm_G} {M : sm_M} {a ci i : Nat} (hi : i < sm_nf ci) : ((List.range (sm_nf ci)).map (sm_fv g M a ci))[i]? = some (sm_fv g M a ci i) := by
  rw [List.getElem?_map, List.getElem?_range hi]
  rfl
theorem sd_get {M : sm_M} {a idx ci i : Nat} {v : Value} (h3 : 3 ≤ a) (hs : M.1[a]? = some (.inr ci)) (hf : sm_fl k.1.cls idx ci i) (hv : ∀ g : sm_G, sm_fv g M a ci i = sm_tv g v) (hd : decode k.2.1 pc = .ok (.getfield idx, 3)) (h : sm_S j k cs sl (pc + 3) lf (v :: st) M o) : sm_S j k cs sl pc lf (.ref a :: st) M o := by
  intro r hr nn g0 g p l e R s m args below meth c Q hC hx hn hQ H locs ls hM hS hL
  obtain ⟨hc, hi, hl⟩ := hf
  refine va_get (v := sm_tv g v) hC.1 hC.2.1 hC.2.2.2.2.2.1 (sm_cl_in ci hc) hC.2.2.2.2.1 hC.2.2.2.2.2.2.2.2.2.1.1 hM.2.1 (a - 3) (sm_w_at hs h3) (sm_cl_at ci hc) i hi (hC.2.2.2.2.2.1 _ hl) (fun _ z => z) (by rw [sm_fv_at hi, hv g]) hd ?_
  exact h r hr nn g0 g p l e R s m args below meth c Q hC hx hn hQ H locs ls hM hS hL
theorem sd_getI {a idx ci i : Nat} {K : Int32 → Option ρ} (hs : sm_sq a = some (.inr ci)) (hk : sm_kd (sm_tf ci i) = 0) (hf : sm_fl k.1.cls idx ci i) (hd : decode k.2.1 pc = .ok (.getfield idx, 3)) (h : ∀ v : Int32, sm_S j k cs sl (pc + 3) lf (.int v :: st) (sm_m N S) (K v)) : sm_S j k cs sl pc lf (.ref a :: st) (sm_m N S) (sm_n (S.1 a i) K) :=
  sd_get (sm_sq_at (n := N) (S := S) hs).1 (sm_sq_at hs).2 hf (v := .int (S.1 a i)) (fun g => by simp only [sm_fv, hk]; rfl) hd (h _)
theorem sd_getL {a idx ci i : Nat} {K : Int64 → Option ρ} (hs : sm_sq a = some (.inr ci)) (hk : sm_kd (sm_tf ci i) = 1) (hf : sm_fl k.1.cls idx ci i) (hd : decode k.2.1 pc = .ok (.getfield idx, 3)) (h : ∀ v : Int64, sm_S j k cs sl (pc + 3) lf (.long v :: st) (sm_m N S) (K v)) : sm_S j k cs sl pc lf (.ref a :: st) (sm_m N S) (sm_n (S.2.1 a i) K) :=
  sd_get (sm_sq_at (n := N) (S := S) hs).1 (sm_sq_at hs).2 hf (v := .long (S.2.1 a i)) (fun g => by simp only [sm_fv, hk]; rfl) hd (h _)
theorem sd_getR {a idx ci i : Nat} (b : Nat) (hs : sm_sq a = some (.inr ci)) (hk : sm_kd (sm_tf ci i) = 2) (hf : sm_fl k.1.cls idx ci i) (hb : sm_r0 S.2.2.1 S.2.2.2.1 S.2.2.2.2 a i = some b) (hd : decode k.2.1 pc = .ok (.getfield idx, 3)) (h : sm_S j k cs sl (pc + 3) lf (.ref b :: st) (sm_m N S) o) : sm_S j k cs sl pc lf (.ref a :: st) (sm_m N S) o :=
  sd_get (sm_sq_at (n := N) (S := S) hs).1 (sm_sq_at hs).2 hf (v := .ref b) (fun g => by
    have hb' : (sm_m N S).2.2.2 a i = some b := hb
    simp only [sm_fv, hk, hb']; rfl) hd h
theorem sd_nr {M : sm_M} {x : Nat} {K : Nat → Option ρ} (h : ∀ y : Nat, sm_S j k cs sl pc lf (.ref y :: st) M (K y)) : sm_S j k cs sl pc lf (.ref x :: st) M (sm_n x K) := h x
theorem sd_getT {a idx ci i : Nat} {K : Nat → Option ρ} (hs : sm_sq a = some (.inr ci)) (hk : sm_kd (sm_tf ci i) = 2) (hf : sm_fl k.1.cls idx ci i) (hb : sm_r0 S.2.2.1 S.2.2.2.1 S.2.2.2.2 a i = S.2.2.2.2) (hd : decode k.2.1 pc = .ok (.getfield idx, 3)) (h : ∀ b : Nat, sm_S j k cs sl (pc + 3) lf (.ref b :: st) (sm_m N S) (K b)) : sm_S j k cs sl pc lf (.ref a :: st) (sm_m N S) (S.2.2.2.2.bind K) := by
  intro r hr
  cases ht : S.2.2.2.2 with
  | none => rw [ht] at hr; cases hr
  | some b =>
    rw [ht] at hr
    exact sd_getR b hs hk hf (hb.trans ht) hd (h b) r hr
theorem sd_put {M M' : sm_M} {a idx ci i : Nat} {v : Value} (h3 : 3 ≤ a) (hs : M.1[a]? = some (.inr ci)) (hf : sm_fl k.1.cls idx ci i) (hfin : (sm_T ci i).2.2.2 = false ∨ ((sm_T ci i).2.2.2 = true ∧ k.1.name = "<init>" ∧ (sm_T ci i).1 = k.1.cls)) (hn : ∀ g : sm_G, narrow (sm_tf ci i) (sm_tv g v) = sm_tv g v ∧ fits (sm_tf ci i) (sm_tv g v) = true) (hs2 : M'.1 = M.1) (ho : ∀ b, b ≠ a → M'.2.1 b = M.2.1 b ∧ M'.2.2.1 b = M.2.2.1 b ∧ M'.2.2.2 b = M.2.2.2 b) (hv : ∀ (g : sm_G) (x : Nat), x < sm_nf ci → sm_fv g M' a ci x = if x = i then sm_tv g v else sm_fv g M a ci x) (hd : decode k.2.1 pc = .ok (.putfield idx, 3)) (h : sm_S j k cs sl (pc + 3) lf st M' o) : sm_S j k cs sl pc lf (v :: .ref a :: st) M o := by
  intro r hr nn g0 g p l e R s m args below meth c Q hC hx hn2 hQ H locs ls hM hS hL
  obtain ⟨hc, hi, hl⟩ := hf
  have hw := sm_w_at (g := g) hs h3
  have hE : sm_ce g M' a (.inr ci) = .inr (ci, ((List.range (sm_nf ci)).map (sm_fv g M a ci)).set i (sm_tv g v)) := by
    simp only [sm_ce]
    congr 2
    apply List.ext_getElem?
    intro x
    by_cases hx2 : x < sm_nf ci
    · rw [sm_fv_at hx2, hv g x hx2]
      by_cases hxi : x = i
      · subst hxi
        rw [List.getElem?_set_self (by simpa using hx2), if_pos rfl]
      · rw [List.getElem?_set_ne (Ne.symm hxi), sm_fv_at hx2, if_neg hxi]
    · rw [List.getElem?_eq_none (by simpa using hx2), List.getElem?_eq_none (by simpa using hx2)]
  have kk : ∀ (H1 : Heap) (locs1 : List Loc), va_P g.2.2.2.2.1 sm_cl ((sm_w g M).set (a - 3) (g.1 a, .inr (ci, ((List.range (sm_nf ci)).map (sm_fv g M a ci)).set i (sm_tv g v)))) H1 → va_D (sm_A g) ((sm_w g M).set (a - 3) (g.1 a, .inr (ci, ((List.range (sm_nf ci)).map (sm_fv g M a ci)).set i (sm_tv g v)))) → va_S (sm_A g) s.heap H1 locs1 → W p l e R s m args below meth c H1 locs1 cs sl Q (F0 m (pc + 3) ls (st.map (sm_tv g))) := fun H1 locs1 hP1 hD1 hS1 =>
    h r hr nn g0 g p l e R s m args below meth c Q hC hx (by rw [hs2]; exact hn2) hQ H1 locs1 ls (sm_R_set hM hs2 ho hs h3 hE hP1 hD1) hS1 hL
  rcases hfin with hfin | ⟨hfin, hini, hown⟩
  · exact va_put hC.1 hC.2.1 hC.2.2.2.2.2.1 (sm_cl_in ci hc) (sm_tf ci) (sm_cl_ty ci hc) (sm_cl_nm ci hc) hC.2.2.2.2.1 hC.2.2.2.2.2.2.2.2.2.1.1 hM.2.1 hM.2.2 hS (a - 3) hw (sm_cl_at ci hc) i hi (hC.2.2.2.2.2.1 _ hl) (fun _ z => z) hfin (sm_cl_ty ci hc i hi) (hn g).1 (hn g).2 (by simpa using hi) hd kk
  · exact va_putF hC.1 hC.2.1 hC.2.2.2.2.2.1 (sm_cl_in ci hc) (sm_tf ci) (sm_cl_ty ci hc) (sm_cl_nm ci hc) hC.2.2.2.2.1 hC.2.2.2.2.2.2.2.2.2.1.1 hM.2.1 hM.2.2 hS (a - 3) hw (sm_cl_at ci hc) i hi (hC.2.2.2.2.2.1 _ hl) (fun _ z => z) hfin (hC.2.2.2.2.2.2.2.1.trans hini) hown (sm_cl_ty ci hc i hi) (hn g).1 (hn g).2 (by simpa using hi) hd kk
theorem sd_putI {a idx ci i : Nat} {x : Int32} {K : sm_t → Option ρ} (hs : sm_sq a = some (.inr ci)) (hk : sm_tf ci i = .int) (hf : sm_fl k.1.cls idx ci i) (hfin : (sm_T ci i).2.2.2 = false) (hd : decode k.2.1 pc = .ok (.putfield idx, 3)) (h : ∀ S : sm_t, sm_S j k cs sl (pc + 3) lf st (sm_m N S) (K S)) : sm_S j k cs sl pc lf (.int x :: .ref a :: st) (sm_m N S) (sm_n (sm_wI S a i x) K) :=
  sd_put (sm_sq_at (n := N) (S := S) hs).1 (sm_sq_at hs).2 hf (Or.inl hfin) (fun g => by rw [hk]; exact ⟨rfl, rfl⟩) (M' := sm_m N (sm_wI S a i x)) rfl (fun b hb => ⟨sm_up_o _ _ hb, rfl, rfl⟩) (fun g z hz => by
    by_cases e : z = i
    · subst e
      rw [if_pos rfl]
      simp only [sm_fv, hk, sm_kd, sm_m, sm_wI, sm_up_s, upd, if_pos]
      rfl
    · rw [if_neg e]
      simp only [sm_fv, sm_m, sm_wI, sm_up_s, upd, if_neg e]) hd (h _)
theorem sd_putZ {a idx ci i : Nat} {x : Int32} {K : sm_t → Option ρ} (hx : x = 0 ∨ x = 1) (hs : sm_sq a = some (.inr ci)) (hk : sm_tf ci i = .boolean) (hf : sm_fl k.1.cls idx ci i) (hfin : (sm_T ci i).2.2.2 = false) (hd : decode k.2.1 pc = .ok (.putfield idx, 3)) (h : ∀ S : sm_t, sm_S j k cs sl (pc + 3) lf st (sm_m N S) (K S)) : sm_S j k cs sl pc lf (.int x :: .ref a :: st) (sm_m N S) (sm_n (sm_wI S a i x) K) :=
  sd_put (sm_sq_at (n := N) (S := S) hs).1 (sm_sq_at hs).2 hf (Or.inl hfin) (fun g => by rw [hk]; rcases hx with rfl | rfl <;> exact ⟨rfl, rfl⟩) (M' := sm_m N (sm_wI S a i x)) rfl (fun b hb => ⟨sm_up_o _ _ hb, rfl, rfl⟩) (fun g z hz => by
    by_cases e : z = i
    · subst e
      rw [if_pos rfl]
      simp only [sm_fv, hk, sm_kd, sm_m, sm_wI, sm_up_s, upd, if_pos]
      rfl
    · rw [if_neg e]
      simp only [sm_fv, sm_m, sm_wI, sm_up_s, upd, if_neg e]) hd (h _)
theorem sd_putL {a idx ci i : Nat} {x : Int64} {K : sm_t → Option ρ} (hs : sm_sq a = some (.inr ci)) (hk : sm_tf ci i = .long) (hf : sm_fl k.1.cls idx ci i) (hfin : (sm_T ci i).2.2.2 = false) (hd : decode k.2.1 pc = .ok (.putfield idx, 3)) (h : ∀ S : sm_t, sm_S j k cs sl (pc + 3) lf st (sm_m N S) (K S)) : sm_S j k cs sl pc lf (.long x :: .ref a :: st) (sm_m N S) (sm_n (sm_wL S a i x) K) :=
  sd_put (sm_sq_at (n := N) (S := S) hs).1 (sm_sq_at hs).2 hf (Or.inl hfin) (fun g => by rw [hk]; exact ⟨rfl, rfl⟩) (M' := sm_m N (sm_wL S a i x)) rfl (fun b hb => ⟨rfl, sm_up_o _ _ hb, rfl⟩) (fun g z hz => by
    by_cases e : z = i
    · subst e
      rw [if_pos rfl]
      simp only [sm_fv, hk, sm_kd, sm_m, sm_wL, sm_up_s, vp_updL, if_pos]
      rfl
    · rw [if_neg e]
      simp only [sm_fv, sm_m, sm_wL, sm_up_s, vp_updL, if_neg e]) hd (h _)
/-- the three references that change: Odds.now, Odds.next, Reader.text -/
theorem sd_putR {S' : sm_t} {a idx ci i b : Nat} (hs : sm_sq a = some (.inr ci)) (hk : sm_kd (sm_tf ci i) = 2) (hk2 : ∀ v : Nat, narrow (sm_tf ci i) (.ref v) = .ref v ∧ fits (sm_tf ci i) (.ref v) = true) (hf : sm_fl k.1.cls idx ci i) (hfin : (sm_T ci i).2.2.2 = false) (h1 : S'.1 = S.1) (h2 : S'.2.1 = S.2.1) (ho : ∀ x, x ≠ a → (sm_m N S').2.2.2 x = (sm_m N S).2.2.2 x) (hr2 : ∀ x, x < sm_nf ci → (sm_m N S').2.2.2 a x = if x = i then some b else (sm_m N S).2.2.2 a x) (hd : decode k.2.1 pc = .ok (.putfield idx, 3)) (h : sm_S j k cs sl (pc + 3) lf st (sm_m N S') o) : sm_S j k cs sl pc lf (.ref b :: .ref a :: st) (sm_m N S) o :=
  sd_put (sm_sq_at (n := N) (S := S) hs).1 (sm_sq_at hs).2 hf (Or.inl hfin) (fun g => hk2 (g.1 b)) (M' := sm_m N S') rfl (fun x hx => ⟨congrFun h1 x, congrFun h2 x, ho x hx⟩) (fun g z hz => by
    have e1 : (sm_m N S').2.1 = (sm_m N S).2.1 := h1
    have e2 : (sm_m N S').2.2.1 = (sm_m N S).2.2.1 := h2
    by_cases e : z = i
    · subst e
      rw [if_pos rfl]
      simp only [sm_fv, hk, hr2 z hz, if_pos]
      rfl
    · rw [if_neg e]
      simp only [sm_fv, e1, e2, hr2 z hz, if_neg e]) hd h
end
end
section
/-! ===== returns, calls, static arrays, System.arraycopy, Math ===== -/
def sm_en (n : Nat) (as : List Value) : List (Option Value) := (as.flatMap (fun v => if v.category = 2 then [some v, none] else [some v])) ++ List.replicate (n - (as.flatMap (fun v => if v.category = 2 then [some v, none] else [some v])).length) none
/-- a method's worth, from its entry -/
def sm_P {ρ : Type} (j : ρ → Option Value × sm_M) (k : sm_K) (as : List Value) (M : sm_M) (o : Option ρ) : Prop := sm_S j k 0 0 0 (sm_en k.2.2.1 as) [] M o
def sm_B (g : sm_G) (M : sm_M) (U : State) : Prop := g.2.1 ≤ U.heap.size ∧ sm_X g U U.heap ∧ sm_R g M U.heap
def sm_Qc (k : sm_K) (n : Nat) (g : sm_G) (r : Option Value × sm_M) : Array Value → State → Outcome → State → Prop := fun _ st oc t => oc = .returned r.1 ∧ (∃ g' : sm_G, sm_ext k n g g' ∧ sm_B g' r.2 t) ∧ va_F (sm_A g) st t
def sm_rm (k : sm_K) : Room := { frames := k.2.2.2.2.1, cells := k.2.2.2.2.2.1, slots := k.2.2.2.2.2.2, locals := 64 * k.2.2.2.2.1 }
def sm_ro (ty : Option FieldType) (v : Option Value) : Prop := match v with
  | some (.int _) => ty = some .int ∨ ty = some .boolean
  | some (.long _) => ty = some .long
  | none => ty = none
  | _ => False
theorem sm_ext_rf {k : sm_K} {n : Nat} {g : sm_G} : sm_ext k n g g := ⟨fun _ _ => rfl, rfl, fun _ => rfl⟩
theorem sm_A_eq {g g' : sm_G} (h : g'.2 = g.2) : sm_A g' = sm_A g := by unfold sm_A; rw [h]
/-- the entry's locals -/
theorem sm_L_en (g : sm_G) (n : Nat) (as : List Value) {ls : Array Slot} (h : lv_has ls n (lv_args 0 (as.map (sm_tv g)))) : sm_L g n (sm_en n as) ls := by
  refine ⟨h.1, h.2.1, fun i v hv => ?_⟩
  have key : ∀ (as : List Value) (d i : Nat) (v : Value), (as.flatMap (fun v => if v.category = 2 then [some v, none] else [some v]))[i]? = some (some v) → (d + i, sm_tv g v) ∈ lv_args d (as.map (sm_tv g)) := by
    intro as
    induction as with
    | nil => intro d i v h; simp at h
    | cons a as ih =>
      intro d i v h
      simp only [List.flatMap_cons] at h
      by_cases hc : a.category = 2
      · rw [if_pos hc] at h
        match i, h with
        | 0, h =>
          simp at h
          subst h
          simp [lv_args]
        | 1, h => simp at h
        | i + 2, h =>
          have h' : (as.flatMap (fun v => if v.category = 2 then [some v, none] else [some v]))[i]? = some (some v) := by simpa using h
          have := ih (d + 2) i v h'
          rw [show d + (i + 2) = d + 2 + i by omega]
          simp only [List.map_cons, lv_args, sm_tv_cat, hc]
          simp [this]
      · rw [if_neg hc] at h
        have hc1 : a.category = 1 := (lv_cat a).resolve_right hc
        match i, h with
        | 0, h =>
          simp at h
          subst h
          simp [lv_args]
        | i + 1, h =>
          have h' : (as.flatMap (fun v => if v.category = 2 then [some v, none] else [some v]))[i]? = some (some v) := by simpa using h
          have := ih (d + 1) i v h'
          rw [show d + (i + 1) = d + 1 + i by omega]
          simp only [List.map_cons, lv_args, sm_tv_cat, hc1]
          simp [this]
  unfold sm_en at hv
  by_cases hl : i < (as.flatMap (fun v => if v.category = 2 then [some v, none] else [some v])).length
  · rw [List.getElem?_append_left hl] at hv
    have := key as 0 i v hv
    rw [Nat.zero_add] at this
    exact h.2.2 _ this
  · rw [List.getElem?_append_right (by omega)] at hv
    rw [List.getElem?_replicate] at hv
    split at hv <;> cases hv
theorem sm_len (g : sm_G) (as : List Value) : (lg_sl (as.map (sm_tv g))).length = (as.flatMap (fun v => if v.category = 2 then [some v, none] else [some v])).length := by
  induction as with
  | nil => rfl
  | cons a as ih =>
    have h1 : lg_sl ((a :: as).map (sm_tv g)) = (if (sm_tv g a).category = 2 then [.val (sm_tv g a), .second] else [.val (sm_tv g a)]) ++ lg_sl (as.map (sm_tv g)) := by simp [lg_sl]
    rw [h1, List.flatMap_cons, List.length_append, List.length_append, ih, sm_tv_cat]
    split <;> rfl
set_option maxHeartbeats 1000000 in
/-- FROM THE WORTH TO THE MACHINE: a method's contract -/
theorem sm_met {ρ : Type} {j : ρ → Option Value × sm_M} {k : sm_K} {as : List Value} {M : sm_M} {o : Option ρ} (hy : plainName k.1.cls = true) (hcd : Cond.code k.1 k.2.1 k.2.2.1 k.2.2.2.1 ∈ sm_tb) (hP : sm_P j k as M o) {r : ρ} (hr : o = some r) (hro : sm_ro k.2.2.2.1 (j r).1) (hlen : (as.flatMap (fun v => if v.category = 2 then [some v, none] else [some v])).length ≤ k.2.2.1) (l : Launch) (g : sm_G) :
    Met l k.1 (Cond.code k.1 k.2.1 k.2.2.1 k.2.2.2.1 :: sm_tb) (sm_rm k) (va_Pc (as.map (sm_tv g)) (sm_B g M)) (sm_Qc k M.1.length g (j r)) k.2.2.2.2.2.1 k.2.2.2.2.2.2 (sm_A g) := by
  refine Met.ofW (cc := k.2.1) (maxL := k.2.2.1) (ret := k.2.2.2.1) hy rfl ?_
  intro p e s m args below meth c s₁ B hml hv
  obtain ⟨rfl, hbs, hX, hM⟩ := hv
  have hts0 := atoms_spec (ws := Cond.code k.1 k.2.1 k.2.2.1 k.2.2.2.1 :: sm_tb) B.pre
  have hts : ∀ w ∈ sm_tb, w.before (as.map (sm_tv g)).toArray s = true := fun w hw => hts0 w (List.mem_cons_of_mem _ hw)
  have hown : s.vm.findClass k.1.cls = some m.cls := findClass_of_methodNamed B.named
  have hlocks := B.notSynchronized
  have hin : meth.name = k.1.name := (name_of_methodNamed B.named B.method).1
  have hl := lv_entry (as.map (sm_tv g)) (n := k.2.2.1) (by rw [sm_len]; exact hlen)
  rw [lg_entry_eq]
  have hC : sm_C k g p (headSpec (Cond.code k.1 k.2.1 k.2.2.1 k.2.2.2.1 :: sm_tb) (sm_rm k)).room s m (as.map (sm_tv g)).toArray meth c := ⟨B.exec, B.bytes, B.returns, hml, hown, hts, hlocks, hin, hbs, hX, Nat.le_refl _, Nat.le_refl _, Nat.le_refl _, Nat.le_refl _⟩
  refine hP r hr M.1.length g g p l e _ s m _ below meth c _ hC sm_ext_rf (Nat.le_refl _) ?_ s.heap [] _ hM va_S.rf (sm_L_en g k.2.2.1 as hl)
  intro g' H locs ls pc cells slots hx hR hS h1 h2 hdc hz
  refine W.widen (k := k.2.2.2.2.2.1) (n := k.2.2.2.2.2.2) h1 h2 ?_
  have hB : ∀ t : State, t.heap = H → s.WarmedH t.vm → sm_Qc k M.1.length g (j r) (as.map (sm_tv g)).toArray s (.returned (j r).1) t := fun t ht hW => by
    refine ⟨rfl, ⟨g', hx, ?_, ?_, ?_⟩, hS.F ht⟩
    · rw [hx.2.1, ht]
      exact Nat.le_trans hbs hS.1
    · have hX2 := (hX.kept hS.1 hS.2.1).warm hW
      rw [← ht] at hX2
      obtain ⟨x1, x2, x3, x4, x5, x6, x7, x8, x9⟩ := hX2
      have e3 : 3 ≤ M.1.length := by
        have := (List.getElem?_eq_some_iff.mp hM.1.2.2.1).1
        omega
      have a0 : g'.1 0 = g.1 0 := hx.1 0 (by omega)
      have a1 : g'.1 1 = g.1 1 := hx.1 1 (by omega)
      have a2 : g'.1 2 = g.1 2 := hx.1 2 (by omega)
      have e4 : sm_A g' = sm_A g := sm_A_eq hx.2.1
      have e5 : sm_tys g' = sm_tys g := by unfold sm_tys; rw [hx.2.1]
      unfold sm_X
      rw [e4, e5, a0, a1, a2, hx.2.1]
      exact ⟨x1, x2, x3, x4, x5, x6, x7, x8, x9⟩
    · rw [ht]; exact hR
  generalize hj : (j r).1 = v at hro hdc hB hz ⊢
  match v, hro with
  | some (.int v), hro =>
    rcases hro with hro | hro
    · exact W.iret (v := v) B.exec B.bytes (B.returns.trans hro) hB hS.2.2 hdc hlocks
    · refine W.zret (v := v) (ty := .boolean) B.exec B.bytes (B.returns.trans hro) ?_ hB hS.2.2 hdc hlocks
      rcases hz v rfl hro with h | h <;> rw [h] <;> rfl
  | some (.long v), hro => exact W.lret (v := v) B.exec B.bytes (B.returns.trans hro) hB hS.2.2 hdc hlocks
  | none, hro => exact W.vret B.exec B.bytes (B.returns.trans hro) hB hS.2.2 hdc hlocks
theorem sm_gi2 {w : Cond} (h : w ∈ sm_tb) : GoodIn sm_tb (w :: sm_tb) := fun x hx => (List.mem_cons.mp hx).elim (fun e => e ▸ sm_gi w h) (sm_gi x)
/-- what the tables say of a method that is called -/
def sm_me (k : sm_K) (n : Nat) : Prop := plainName k.1.cls = true ∧ Cond.code k.1 k.2.1 k.2.2.1 k.2.2.2.1 ∈ sm_tb ∧ Cond.initialized k.1.cls ∈ sm_tb ∧ (k.1.cls ≠ "java/lang/invoke/MethodHandle" ∧ k.1.cls ≠ "java/lang/invoke/VarHandle" ∧ (parseMethodDescriptor k.1.desc).map (fun d => d.parameters.length) = some n)
theorem sm_bl {g : sm_G} {M : sm_M} {vs : List Value} : FrameBlind (va_Pc vs (sm_B g M)) := fun a U f mk q => by
  obtain ⟨q0, q1, q2, q3⟩ := q
  exact ⟨q0, q1, sm_X.moved (u := U) (U := U.calling f mk a) (Vm.Alike.refl U.vm) (sm_Nn.same (u := U) rfl q2.2.2.2.2.2.2.2.2) q2, q3⟩
theorem sm_pre {k : sm_K} {g : sm_G} {p : Program} {R : Room} {s : State} {m : MethodId} {args : Array Value} {meth : Method} {c : Code} {M : sm_M} {H : Heap} {locs : List Loc} {vs : List Value} (hC : sm_C k g p R s m args meth c) (hM : sm_R g M H) (hS : va_S (sm_A g) s.heap H locs) : ∀ U : State, U.heap = H → s.WarmedH U.vm → va_Pc vs (sm_B g M) vs.toArray U := fun U hU hW => by
  refine ⟨rfl, ?_, ?_, ?_⟩
  · rw [hU]
    exact Nat.le_trans hC.2.2.2.2.2.2.2.2.1 hS.1
  · rw [hU]
    exact (hC.2.2.2.2.2.2.2.2.2.1.kept hS.1 hS.2.1).warm hW
  · rw [hU]
    exact hM
theorem sm_cats (g : sm_G) (l : List Value) : ((l.map (sm_tv g)).map fun v => v.category).sum = (l.map fun v => v.category).sum := by
  induction l with
  | nil => rfl
  | cons a l ih => simp only [List.map_cons, List.sum_cons, ih, sm_tv_cat]
theorem sm_call {p : Program} {l : Launch} {e : Env} {R : Room} {s : State} {m : MethodId} {args a : Array Value} {below : List Frame} {meth : Method} {c : Code} {H : Heap} {locs : List Loc} {cells slots mc ms pc n : Nat} {Q : State → Prop} {ls : Array Slot} {st0 rest : List Value} {k2 : sm_K} {g : sm_G} {r : Option Value × sm_M} (hr : va_Run p l e R s m args below meth c H locs cells slots mc ms (F0 m pc ls st0) rest (sm_Qc k2 n g r a) (sm_A g)) (hS : va_S (sm_A g) s.heap H locs)
    (kk : ∀ (g' : sm_G) (H1 : Heap) (locs1 : List Loc), sm_ext k2 n g g' → sm_R g' r.2 H1 → va_S (sm_A g) s.heap H1 locs1 → W p l e R s m args below meth c H1 locs1 (cells + mc) (slots + ms) Q (F0 m (pc + 3) ls (r.1.toList ++ rest))) : W p l e R s m args below meth c H locs cells slots Q (F0 m pc ls st0) := by
  intro T hT X
  obtain ⟨v, st₀, t, T', L, h0, X', hL, e1, e2, ⟨hv, ⟨g', hx, hb1, hb2, hb3⟩, hz, hk⟩, st⟩ := hr T hT X
  cases hv
  rw [h0] at hz hk
  rw [← e1] at hb3
  obtain ⟨t2, a1, b1⟩ := kk g' T'.heap (locs ++ L) hx hb3
    ⟨Nat.le_trans hS.1 (by rw [e1]; exact hz), fun q h1 h2 => by rw [e1, hk q (Nat.lt_of_lt_of_le h1 hS.1) h2]; exact hS.2.1 q h1 h2, fun q hq => by
      rcases List.mem_append.mp hq with h | h
      · exact hS.2.2 q h
      · exact hL q h⟩ T' rfl X'
  exact ⟨t2, st t2 a1, b1⟩
section
variable {ρ ρ2 : Type} {j : ρ → Option Value × sm_M} {j2 : ρ2 → Option Value × sm_M} {k k2 : sm_K} {cs sl pc N : Nat} {lf : List (Option Value)} {st As rest : List Value} {S : sm_t} {M : sm_M} {o2 : Option ρ2} {K : ρ2 → Option ρ}
/-- static -/
theorem sd_cS (idx : Nat) (hd : decode k.2.1 pc = .ok (.invokestatic idx, 3)) (hl : Cond.methodLink k.1.cls idx k2.1 ∈ sm_tb) (hstt : Cond.static k2.1 ∈ sm_tb) (hme : sm_me k2 As.length) (hz : k2.2.2.2.2.2.1 = 0 ∧ k2.2.2.2.2.2.2 = 0) (hfr : k2.2.2.2.2.1 + 1 ≤ k.2.2.2.2.1 ∧ k2.2.2.1 ≤ 45) (hrs : (rest.map fun v => v.category).sum ≤ 8) (hen : (As.flatMap (fun v => if v.category = 2 then [some v, none] else [some v])).length ≤ k2.2.2.1) (hro : ∀ r, sm_ro k2.2.2.2.1 (j2 r).1) (hvv : ∀ r g, (j2 r).1.toList.map (sm_tv g) = (j2 r).1.toList) (hml : ∀ r, (j2 r).2.1 = M.1) (hcs : cs ≤ k.2.2.2.2.2.1) (hsl : sl ≤ k.2.2.2.2.2.2) (hst : st = As.reverse ++ rest) (hp : sm_P j2 k2 (As) M o2) (h : ∀ r2, sm_S j k cs sl (pc + 3) lf ((j2 r2).1.toList ++ rest) (j2 r2).2 (K r2)) : sm_S j k cs sl pc lf st M (o2.bind K) := by
  intro r hr n g0 g p l e R s m args below meth c Q hC hx hn hQ H locs ls hM hS hL
  cases ho : o2 with
  | none => rw [ho] at hr; cases hr
  | some r2 =>
    rw [ho] at hr
    have hr : K r2 = some r := hr
    have hMet := sm_met hme.1 hme.2.1 hp ho (hro r2) hen l g
    rw [hz.1, hz.2] at hMet
    have hts := hC.2.2.2.2.2.1
    have hfr1 : (sm_rm k2).frames + 1 ≤ R.frames := Nat.le_trans hfr.1 hC.2.2.2.2.2.2.2.2.2.2.1
    have hfr2 : 8 + (k2.2.2.1 + 11) + (sm_rm k2).locals ≤ R.locals := by
      have h1 := hC.2.2.2.2.2.2.2.2.2.2.2.1
      have h2 := hfr.1
      have h3 := hfr.2
      show 8 + (k2.2.2.1 + 11) + 64 * k2.2.2.2.2.1 ≤ R.locals
      omega
    have hf : cs + 0 ≤ R.cells ∧ sl + 0 ≤ R.slots := ⟨Nat.le_trans hcs hC.2.2.2.2.2.2.2.2.2.2.2.2.1, Nat.le_trans hsl hC.2.2.2.2.2.2.2.2.2.2.2.2.2⟩
    have hrun : va_Run p l e R s m args below meth c H locs cs sl 0 0 (F0 m pc ls (st.map (sm_tv g))) (rest.map (sm_tv g)) (sm_Qc k2 M.1.length g (j2 r2) ((As).map (sm_tv g)).toArray) (sm_A g) := by
      exact va_runS (n := As.length) ⟨hC.1, hC.2.1, hC.2.2.2.1, hC.2.2.2.2.1, hts⟩ hMet ⟨callB_of As.length hts (sm_gi2 hme.2.1) rfl hz.1 hz.2 (hts _ hme.2.2.1) (hts _ hl) hme.2.2.2 ⟨hfr1, hfr2⟩, hts _ hstt⟩ ⟨sm_bl, sm_pre hC hM hS⟩ rfl (by rw [List.length_map]) (hL.1) (by subst hst; simp [List.map_reverse, sm_tv]) (by rw [show (F0 m pc ls (st.map (sm_tv g))).monitorRoom = 0 from rfl, sm_cats]; omega) hd hf
    refine sm_call hrun hS (fun g' H1 locs1 hx1 hR1 hS1 => ?_)
    have hg : g' = g := hx1.2.2 hz.1
    subst hg
    have hk := h r2 r hr n g0 g' p l e R s m args below meth c Q hC hx (by rw [hml r2]; exact hn) hQ H1 locs1 ls hR1 hS1 hL
    rw [List.map_append, hvv r2 g'] at hk
    exact hk
/-- static, private, of the same nest -/
theorem sd_cN (idx : Nat) (host : String) (hd : decode k.2.1 pc = .ok (.invokestatic idx, 3)) (hl : (k.1.cls, idx, k2.1, host) ∈ sm_nl) (hstt : Cond.static k2.1 ∈ sm_tb) (hme : sm_me k2 As.length) (hz : k2.2.2.2.2.2.1 = 0 ∧ k2.2.2.2.2.2.2 = 0) (hfr : k2.2.2.2.2.1 + 1 ≤ k.2.2.2.2.1 ∧ k2.2.2.1 ≤ 45) (hrs : (rest.map fun v => v.category).sum ≤ 8) (hen : (As.flatMap (fun v => if v.category = 2 then [some v, none] else [some v])).length ≤ k2.2.2.1) (hro : ∀ r, sm_ro k2.2.2.2.1 (j2 r).1) (hvv : ∀ r g, (j2 r).1.toList.map (sm_tv g) = (j2 r).1.toList) (hml : ∀ r, (j2 r).2.1 = M.1) (hcs : cs ≤ k.2.2.2.2.2.1) (hsl : sl ≤ k.2.2.2.2.2.2) (hst : st = As.reverse ++ rest) (hp : sm_P j2 k2 (As) M o2) (h : ∀ r2, sm_S j k cs sl (pc + 3) lf ((j2 r2).1.toList ++ rest) (j2 r2).2 (K r2)) : sm_S j k cs sl pc lf st M (o2.bind K) := by
  intro r hr n g0 g p l e R s m args below meth c Q hC hx hn hQ H locs ls hM hS hL
  cases ho : o2 with
  | none => rw [ho] at hr; cases hr
  | some r2 =>
    rw [ho] at hr
    have hr : K r2 = some r := hr
    have hMet := sm_met hme.1 hme.2.1 hp ho (hro r2) hen l g
    rw [hz.1, hz.2] at hMet
    have hts := hC.2.2.2.2.2.1
    have hfr1 : (sm_rm k2).frames + 1 ≤ R.frames := Nat.le_trans hfr.1 hC.2.2.2.2.2.2.2.2.2.2.1
    have hfr2 : 8 + (k2.2.2.1 + 11) + (sm_rm k2).locals ≤ R.locals := by
      have h1 := hC.2.2.2.2.2.2.2.2.2.2.2.1
      have h2 := hfr.1
      have h3 := hfr.2
      show 8 + (k2.2.2.1 + 11) + 64 * k2.2.2.2.2.1 ≤ R.locals
      omega
    have hf : cs + 0 ≤ R.cells ∧ sl + 0 ≤ R.slots := ⟨Nat.le_trans hcs hC.2.2.2.2.2.2.2.2.2.2.2.2.1, Nat.le_trans hsl hC.2.2.2.2.2.2.2.2.2.2.2.2.2⟩
    have hrun : va_Run p l e R s m args below meth c H locs cs sl 0 0 (F0 m pc ls (st.map (sm_tv g))) (rest.map (sm_tv g)) (sm_Qc k2 M.1.length g (j2 r2) ((As).map (sm_tv g)).toArray) (sm_A g) := by
      exact va_runSN (n := As.length) ⟨hC.1, hC.2.1, hC.2.2.2.1, hC.2.2.2.2.1, hts⟩ hMet ⟨va_cnB As.length hts (sm_gi2 hme.2.1) rfl hz.1 hz.2 (hC.2.2.2.2.2.2.2.2.2.1.2.2.2.2.2.2.2.2 _ hl) (hts _ hme.2.2.1) hme.2.2.2 ⟨hfr1, hfr2⟩, hts _ hstt, trivial⟩ ⟨sm_bl, sm_pre hC hM hS⟩ rfl (by rw [List.length_map]) (hL.1) (by subst hst; simp [List.map_reverse, sm_tv]) (by rw [show (F0 m pc ls (st.map (sm_tv g))).monitorRoom = 0 from rfl, sm_cats]; omega) hd hf
    refine sm_call hrun hS (fun g' H1 locs1 hx1 hR1 hS1 => ?_)
    have hg : g' = g := hx1.2.2 hz.1
    subst hg
    have hk := h r2 r hr n g0 g' p l e R s m args below meth c Q hC hx (by rw [hml r2]; exact hn) hQ H1 locs1 ls hR1 hS1 hL
    rw [List.map_append, hvv r2 g'] at hk
    exact hk
/-- of an object -/
theorem sd_cV (idx : Nat) {b ci : Nat} (h3 : 3 ≤ b) (hb : M.1[b]? = some (.inr ci)) (hci : ci < 8) (hcl : k2.1.cls = sm_Rn ci) (hd : decode k.2.1 pc = .ok (.invokevirtual idx, 3)) (hl : Cond.methodLink k.1.cls idx k2.1 ∈ sm_tb) (hins : Cond.instanceMethod k2.1 ∈ sm_tb) (hsel : Cond.selects k2.1.cls k2.1 k2.1 ∈ sm_tb) (hme : sm_me k2 As.length) (hz : k2.2.2.2.2.2.1 = 0 ∧ k2.2.2.2.2.2.2 = 0) (hfr : k2.2.2.2.2.1 + 1 ≤ k.2.2.2.2.1 ∧ k2.2.2.1 ≤ 45) (hrs : (rest.map fun v => v.category).sum ≤ 8) (hen : ((.ref b :: As : List Value).flatMap (fun v => if v.category = 2 then [some v, none] else [some v])).length ≤ k2.2.2.1) (hro : ∀ r, sm_ro k2.2.2.2.1 (j2 r).1) (hvv : ∀ r g, (j2 r).1.toList.map (sm_tv g) = (j2 r).1.toList) (hml : ∀ r, (j2 r).2.1 = M.1) (hcs : cs ≤ k.2.2.2.2.2.1) (hsl : sl ≤ k.2.2.2.2.2.2) (hst : st = As.reverse ++ .ref b :: rest) (hp : sm_P j2 k2 (.ref b :: As) M o2) (h : ∀ r2, sm_S j k cs sl (pc + 3) lf ((j2 r2).1.toList ++ rest) (j2 r2).2 (K r2)) : sm_S j k cs sl pc lf st M (o2.bind K) := by
  intro r hr n g0 g p l e R s m args below meth c Q hC hx hn hQ H locs ls hM hS hL
  cases ho : o2 with
  | none => rw [ho] at hr; cases hr
  | some r2 =>
    rw [ho] at hr
    have hr : K r2 = some r := hr
    have hMet := sm_met hme.1 hme.2.1 hp ho (hro r2) hen l g
    rw [hz.1, hz.2] at hMet
    have hts := hC.2.2.2.2.2.1
    have hfr1 : (sm_rm k2).frames + 1 ≤ R.frames := Nat.le_trans hfr.1 hC.2.2.2.2.2.2.2.2.2.2.1
    have hfr2 : 8 + (k2.2.2.1 + 11) + (sm_rm k2).locals ≤ R.locals := by
      have h1 := hC.2.2.2.2.2.2.2.2.2.2.2.1
      have h2 := hfr.1
      have h3 := hfr.2
      show 8 + (k2.2.2.1 + 11) + 64 * k2.2.2.2.2.1 ≤ R.locals
      omega
    have hf : cs + 0 ≤ R.cells ∧ sl + 0 ≤ R.slots := ⟨Nat.le_trans hcs hC.2.2.2.2.2.2.2.2.2.2.2.2.1, Nat.le_trans hsl hC.2.2.2.2.2.2.2.2.2.2.2.2.2⟩
    have hrun : va_Run p l e R s m args below meth c H locs cs sl 0 0 (F0 m pc ls (st.map (sm_tv g))) (rest.map (sm_tv g)) (sm_Qc k2 M.1.length g (j2 r2) ((.ref b :: As).map (sm_tv g)).toArray) (sm_A g) := by
      exact va_runV (n := As.length) (C := k2.1.cls) (b := g.1 b) (As := As.map (sm_tv g)) ⟨hC.1, hC.2.1, hC.2.2.2.1, hC.2.2.2.2.1, hts⟩ hMet ⟨callB_of As.length hts (sm_gi2 hme.2.1) rfl hz.1 hz.2 (hts _ hme.2.2.1) (hts _ hl) hme.2.2.2 ⟨hfr1, hfr2⟩, hts _ hins, hts _ hsel⟩ ⟨sm_bl, by rw [hcl]; exact va_recv hC.2.2.2.2.2.2.2.2.2.1.1 hM.2.1 (sm_cl_at ci hci) (sm_w_at hb h3), sm_pre (vs := .ref (g.1 b) :: As.map (sm_tv g)) hC hM hS⟩ rfl (by rw [List.length_map]) (hL.1) (by subst hst; simp [List.map_reverse, sm_tv]) (by rw [show (F0 m pc ls (st.map (sm_tv g))).monitorRoom = 0 from rfl, sm_cats]; omega) hd hf
    refine sm_call hrun hS (fun g' H1 locs1 hx1 hR1 hS1 => ?_)
    have hg : g' = g := hx1.2.2 hz.1
    subst hg
    have hk := h r2 r hr n g0 g' p l e R s m args below meth c Q hC hx (by rw [hml r2]; exact hn) hQ H1 locs1 ls hR1 hS1 hL
    rw [List.map_append, hvv r2 g'] at hk
    exact hk
end
end
section
/-! ===== returns; calls by what they answer; static arrays; System.arraycopy; Math ===== -/
section
variable {ρ : Type} {j : ρ → Option Value × sm_M} {k k2 : sm_K} {cs sl pc N : Nat} {lf : List (Option Value)} {st As rest : List Value} {S : sm_t} {M : sm_M} {o : Option ρ}
theorem sd_iret {v : Int32} (hd : decode k.2.1 pc = .ok (.ireturn, 1)) (hk : k.2.2.2.1 = some .int) (hcs : cs ≤ k.2.2.2.2.2.1) (hsl : sl ≤ k.2.2.2.2.2.2) : sm_S (sm_jI N) k cs sl pc lf [.int v] (sm_m N S) (some (v, S)) := by
  intro r hr nn g0 g p l e R s m args below meth c Q hC hx hn hQ H locs ls hM hS hL
  cases hr
  exact hQ g H locs ls pc cs sl hx hM (sm_A_eq hx.2.1 ▸ hS) hcs hsl hd (fun _ _ hb => absurd (hk.symm.trans hb) (by decide))
theorem sd_zret {v : Int32} (hd : decode k.2.1 pc = .ok (.ireturn, 1)) (hv : v = 0 ∨ v = 1) (hcs : cs ≤ k.2.2.2.2.2.1) (hsl : sl ≤ k.2.2.2.2.2.2) : sm_S (sm_jI N) k cs sl pc lf [.int v] (sm_m N S) (some (v, S)) := by
  intro r hr nn g0 g p l e R s m args below meth c Q hC hx hn hQ H locs ls hM hS hL
  cases hr
  exact hQ g H locs ls pc cs sl hx hM (sm_A_eq hx.2.1 ▸ hS) hcs hsl hd (fun u hu _ => by cases hu; exact hv)
theorem sd_lret {v : Int64} (hd : decode k.2.1 pc = .ok (.lreturn, 1))  (hcs : cs ≤ k.2.2.2.2.2.1) (hsl : sl ≤ k.2.2.2.2.2.2) : sm_S (sm_jL N) k cs sl pc lf [.long v] (sm_m N S) (some (v, S)) := by
  intro r hr nn g0 g p l e R s m args below meth c Q hC hx hn hQ H locs ls hM hS hL
  cases hr
  exact hQ g H locs ls pc cs sl hx hM (sm_A_eq hx.2.1 ▸ hS) hcs hsl hd (fun _ hu => by cases hu)
theorem sd_vret (hd : decode k.2.1 pc = .ok (.return_, 1)) (hcs : cs ≤ k.2.2.2.2.2.1) (hsl : sl ≤ k.2.2.2.2.2.2) : sm_S (sm_jV N) k cs sl pc lf [] (sm_m N S) (some S) := by
  intro r hr nn g0 g p l e R s m args below meth c Q hC hx hn hQ H locs ls hM hS hL
  cases hr
  exact hQ g H locs ls pc cs sl hx hM (sm_A_eq hx.2.1 ▸ hS) hcs hsl hd (fun _ hu => by cases hu)
def sm_rz (v : Int32) (S : sm_t) : Option (Int32 × sm_t) := if v = 0 ∨ v = 1 then some (v, S) else none
theorem sd_zrv {v : Int32} (hd : decode k.2.1 pc = .ok (.ireturn, 1)) (hcs : cs ≤ k.2.2.2.2.2.1) (hsl : sl ≤ k.2.2.2.2.2.2) : sm_S (sm_jI N) k cs sl pc lf [.int v] (sm_m N S) (sm_rz v S) := by
  unfold sm_rz
  by_cases q : v = 0 ∨ v = 1
  · rw [if_pos q]
    exact sd_zret hd q hcs hsl
  · rw [if_neg q]
    exact sd_none
def sm_cI {ρ : Type} (o : Option (Int32 × sm_t)) (K : Int32 → sm_t → Option ρ) : Option ρ := o.bind fun q => K q.1 q.2
def sm_cL {ρ : Type} (o : Option (Int64 × sm_t)) (K : Int64 → sm_t → Option ρ) : Option ρ := o.bind fun q => K q.1 q.2
def sm_cV {ρ : Type} (o : Option sm_t) (K : sm_t → Option ρ) : Option ρ := o.bind K
theorem sd_cSI {o2 : Option (Int32 × sm_t)} {K : Int32 → sm_t → Option ρ} (idx : Nat) (hd : decode k.2.1 pc = .ok (.invokestatic idx, 3)) (hl : Cond.methodLink k.1.cls idx k2.1 ∈ sm_tb) (hstt : Cond.static k2.1 ∈ sm_tb) (hme : sm_me k2 As.length) (hz : k2.2.2.2.2.2.1 = 0 ∧ k2.2.2.2.2.2.2 = 0) (hfr : k2.2.2.2.2.1 + 1 ≤ k.2.2.2.2.1 ∧ k2.2.2.1 ≤ 45) (hrs : (rest.map fun v => v.category).sum ≤ 8) (hen : (As.flatMap (fun v => if v.category = 2 then [some v, none] else [some v])).length ≤ k2.2.2.1) (hro : k2.2.2.2.1 = some .int ∨ k2.2.2.2.1 = some .boolean) (hcs : cs ≤ k.2.2.2.2.2.1) (hsl : sl ≤ k.2.2.2.2.2.2) (hst : st = As.reverse ++ rest) (hp : sm_P (sm_jI N) k2 As (sm_m N S) o2) (h : ∀ (v : Int32) (S : sm_t), sm_S j k cs sl (pc + 3) lf (.int v :: rest) (sm_m N S) (K v S)) : sm_S j k cs sl pc lf st (sm_m N S) (sm_cI o2 K) :=
  sd_cS (j2 := sm_jI N) idx hd hl hstt hme hz hfr hrs hen (fun _ => hro) (fun _ _ => rfl) (fun _ => rfl) hcs hsl hst hp (fun q => h q.1 q.2)
theorem sd_cSL {o2 : Option (Int64 × sm_t)} {K : Int64 → sm_t → Option ρ} (idx : Nat) (hd : decode k.2.1 pc = .ok (.invokestatic idx, 3)) (hl : Cond.methodLink k.1.cls idx k2.1 ∈ sm_tb) (hstt : Cond.static k2.1 ∈ sm_tb) (hme : sm_me k2 As.length) (hz : k2.2.2.2.2.2.1 = 0 ∧ k2.2.2.2.2.2.2 = 0) (hfr : k2.2.2.2.2.1 + 1 ≤ k.2.2.2.2.1 ∧ k2.2.2.1 ≤ 45) (hrs : (rest.map fun v => v.category).sum ≤ 8) (hen : (As.flatMap (fun v => if v.category = 2 then [some v, none] else [some v])).length ≤ k2.2.2.1) (hro : k2.2.2.2.1 = some .long) (hcs : cs ≤ k.2.2.2.2.2.1) (hsl : sl ≤ k.2.2.2.2.2.2) (hst : st = As.reverse ++ rest) (hp : sm_P (sm_jL N) k2 As (sm_m N S) o2) (h : ∀ (v : Int64) (S : sm_t), sm_S j k cs sl (pc + 3) lf (.long v :: rest) (sm_m N S) (K v S)) : sm_S j k cs sl pc lf st (sm_m N S) (sm_cL o2 K) :=
  sd_cS (j2 := sm_jL N) idx hd hl hstt hme hz hfr hrs hen (fun _ => hro) (fun _ _ => rfl) (fun _ => rfl) hcs hsl hst hp (fun q => h q.1 q.2)
theorem sd_cSV {o2 : Option (sm_t)} {K : sm_t → Option ρ} (idx : Nat) (hd : decode k.2.1 pc = .ok (.invokestatic idx, 3)) (hl : Cond.methodLink k.1.cls idx k2.1 ∈ sm_tb) (hstt : Cond.static k2.1 ∈ sm_tb) (hme : sm_me k2 As.length) (hz : k2.2.2.2.2.2.1 = 0 ∧ k2.2.2.2.2.2.2 = 0) (hfr : k2.2.2.2.2.1 + 1 ≤ k.2.2.2.2.1 ∧ k2.2.2.1 ≤ 45) (hrs : (rest.map fun v => v.category).sum ≤ 8) (hen : (As.flatMap (fun v => if v.category = 2 then [some v, none] else [some v])).length ≤ k2.2.2.1) (hro : k2.2.2.2.1 = none) (hcs : cs ≤ k.2.2.2.2.2.1) (hsl : sl ≤ k.2.2.2.2.2.2) (hst : st = As.reverse ++ rest) (hp : sm_P (sm_jV N) k2 As (sm_m N S) o2) (h : ∀ (S : sm_t), sm_S j k cs sl (pc + 3) lf rest (sm_m N S) (K S)) : sm_S j k cs sl pc lf st (sm_m N S) (sm_cV o2 K) :=
  sd_cS (j2 := sm_jV N) idx hd hl hstt hme hz hfr hrs hen (fun _ => hro) (fun _ _ => rfl) (fun _ => rfl) hcs hsl hst hp (h)
theorem sd_cNI {o2 : Option (Int32 × sm_t)} {K : Int32 → sm_t → Option ρ} (idx : Nat) (host : String) (hd : decode k.2.1 pc = .ok (.invokestatic idx, 3)) (hl : (k.1.cls, idx, k2.1, host) ∈ sm_nl) (hstt : Cond.static k2.1 ∈ sm_tb) (hme : sm_me k2 As.length) (hz : k2.2.2.2.2.2.1 = 0 ∧ k2.2.2.2.2.2.2 = 0) (hfr : k2.2.2.2.2.1 + 1 ≤ k.2.2.2.2.1 ∧ k2.2.2.1 ≤ 45) (hrs : (rest.map fun v => v.category).sum ≤ 8) (hen : (As.flatMap (fun v => if v.category = 2 then [some v, none] else [some v])).length ≤ k2.2.2.1) (hro : k2.2.2.2.1 = some .int ∨ k2.2.2.2.1 = some .boolean) (hcs : cs ≤ k.2.2.2.2.2.1) (hsl : sl ≤ k.2.2.2.2.2.2) (hst : st = As.reverse ++ rest) (hp : sm_P (sm_jI N) k2 As (sm_m N S) o2) (h : ∀ (v : Int32) (S : sm_t), sm_S j k cs sl (pc + 3) lf (.int v :: rest) (sm_m N S) (K v S)) : sm_S j k cs sl pc lf st (sm_m N S) (sm_cI o2 K) :=
  sd_cN (j2 := sm_jI N) idx host hd hl hstt hme hz hfr hrs hen (fun _ => hro) (fun _ _ => rfl) (fun _ => rfl) hcs hsl hst hp (fun q => h q.1 q.2)
theorem sd_cNL {o2 : Option (Int64 × sm_t)} {K : Int64 → sm_t → Option ρ} (idx : Nat) (host : String) (hd : decode k.2.1 pc = .ok (.invokestatic idx, 3)) (hl : (k.1.cls, idx, k2.1, host) ∈ sm_nl) (hstt : Cond.static k2.1 ∈ sm_tb) (hme : sm_me k2 As.length) (hz : k2.2.2.2.2.2.1 = 0 ∧ k2.2.2.2.2.2.2 = 0) (hfr : k2.2.2.2.2.1 + 1 ≤ k.2.2.2.2.1 ∧ k2.2.2.1 ≤ 45) (hrs : (rest.map fun v => v.category).sum ≤ 8) (hen : (As.flatMap (fun v => if v.category = 2 then [some v, none] else [some v])).length ≤ k2.2.2.1) (hro : k2.2.2.2.1 = some .long) (hcs : cs ≤ k.2.2.2.2.2.1) (hsl : sl ≤ k.2.2.2.2.2.2) (hst : st = As.reverse ++ rest) (hp : sm_P (sm_jL N) k2 As (sm_m N S) o2) (h : ∀ (v : Int64) (S : sm_t), sm_S j k cs sl (pc + 3) lf (.long v :: rest) (sm_m N S) (K v S)) : sm_S j k cs sl pc lf st (sm_m N S) (sm_cL o2 K) :=
  sd_cN (j2 := sm_jL N) idx host hd hl hstt hme hz hfr hrs hen (fun _ => hro) (fun _ _ => rfl) (fun _ => rfl) hcs hsl hst hp (fun q => h q.1 q.2)
theorem sd_cNV {o2 : Option (sm_t)} {K : sm_t → Option ρ} (idx : Nat) (host : String) (hd : decode k.2.1 pc = .ok (.invokestatic idx, 3)) (hl : (k.1.cls, idx, k2.1, host) ∈ sm_nl) (hstt : Cond.static k2.1 ∈ sm_tb) (hme : sm_me k2 As.length) (hz : k2.2.2.2.2.2.1 = 0 ∧ k2.2.2.2.2.2.2 = 0) (hfr : k2.2.2.2.2.1 + 1 ≤ k.2.2.2.2.1 ∧ k2.2.2.1 ≤ 45) (hrs : (rest.map fun v => v.category).sum ≤ 8) (hen : (As.flatMap (fun v => if v.category = 2 then [some v, none] else [some v])).length ≤ k2.2.2.1) (hro : k2.2.2.2.1 = none) (hcs : cs ≤ k.2.2.2.2.2.1) (hsl : sl ≤ k.2.2.2.2.2.2) (hst : st = As.reverse ++ rest) (hp : sm_P (sm_jV N) k2 As (sm_m N S) o2) (h : ∀ (S : sm_t), sm_S j k cs sl (pc + 3) lf rest (sm_m N S) (K S)) : sm_S j k cs sl pc lf st (sm_m N S) (sm_cV o2 K) :=
  sd_cN (j2 := sm_jV N) idx host hd hl hstt hme hz hfr hrs hen (fun _ => hro) (fun _ _ => rfl) (fun _ => rfl) hcs hsl hst hp (h)
theorem sd_cVI {o2 : Option (Int32 × sm_t)} {K : Int32 → sm_t → Option ρ} {b ci : Nat} (idx : Nat) (hb : sm_sq b = some (.inr ci)) (hci : ci < 8) (hcl : k2.1.cls = sm_Rn ci) (hd : decode k.2.1 pc = .ok (.invokevirtual idx, 3)) (hl : Cond.methodLink k.1.cls idx k2.1 ∈ sm_tb) (hins : Cond.instanceMethod k2.1 ∈ sm_tb) (hsel : Cond.selects k2.1.cls k2.1 k2.1 ∈ sm_tb) (hme : sm_me k2 As.length) (hz : k2.2.2.2.2.2.1 = 0 ∧ k2.2.2.2.2.2.2 = 0) (hfr : k2.2.2.2.2.1 + 1 ≤ k.2.2.2.2.1 ∧ k2.2.2.1 ≤ 45) (hrs : (rest.map fun v => v.category).sum ≤ 8) (hen : ((.ref b :: As : List Value).flatMap (fun v => if v.category = 2 then [some v, none] else [some v])).length ≤ k2.2.2.1) (hro : k2.2.2.2.1 = some .int ∨ k2.2.2.2.1 = some .boolean) (hcs : cs ≤ k.2.2.2.2.2.1) (hsl : sl ≤ k.2.2.2.2.2.2) (hst : st = As.reverse ++ .ref b :: rest) (hp : sm_P (sm_jI N) k2 (.ref b :: As : List Value) (sm_m N S) o2) (h : ∀ (v : Int32) (S : sm_t), sm_S j k cs sl (pc + 3) lf (.int v :: rest) (sm_m N S) (K v S)) : sm_S j k cs sl pc lf st (sm_m N S) (sm_cI o2 K) :=
  sd_cV (j2 := sm_jI N) idx (sm_sq_at (n := N) (S := S) hb).1 (sm_sq_at hb).2 hci hcl hd hl hins hsel hme hz hfr hrs hen (fun _ => hro) (fun _ _ => rfl) (fun _ => rfl) hcs hsl hst hp (fun q => h q.1 q.2)
theorem sd_cVL {o2 : Option (Int64 × sm_t)} {K : Int64 → sm_t → Option ρ} {b ci : Nat} (idx : Nat) (hb : sm_sq b = some (.inr ci)) (hci : ci < 8) (hcl : k2.1.cls = sm_Rn ci) (hd : decode k.2.1 pc = .ok (.invokevirtual idx, 3)) (hl : Cond.methodLink k.1.cls idx k2.1 ∈ sm_tb) (hins : Cond.instanceMethod k2.1 ∈ sm_tb) (hsel : Cond.selects k2.1.cls k2.1 k2.1 ∈ sm_tb) (hme : sm_me k2 As.length) (hz : k2.2.2.2.2.2.1 = 0 ∧ k2.2.2.2.2.2.2 = 0) (hfr : k2.2.2.2.2.1 + 1 ≤ k.2.2.2.2.1 ∧ k2.2.2.1 ≤ 45) (hrs : (rest.map fun v => v.category).sum ≤ 8) (hen : ((.ref b :: As : List Value).flatMap (fun v => if v.category = 2 then [some v, none] else [some v])).length ≤ k2.2.2.1) (hro : k2.2.2.2.1 = some .long) (hcs : cs ≤ k.2.2.2.2.2.1) (hsl : sl ≤ k.2.2.2.2.2.2) (hst : st = As.reverse ++ .ref b :: rest) (hp : sm_P (sm_jL N) k2 (.ref b :: As : List Value) (sm_m N S) o2) (h : ∀ (v : Int64) (S : sm_t), sm_S j k cs sl (pc + 3) lf (.long v :: rest) (sm_m N S) (K v S)) : sm_S j k cs sl pc lf st (sm_m N S) (sm_cL o2 K) :=
  sd_cV (j2 := sm_jL N) idx (sm_sq_at (n := N) (S := S) hb).1 (sm_sq_at hb).2 hci hcl hd hl hins hsel hme hz hfr hrs hen (fun _ => hro) (fun _ _ => rfl) (fun _ => rfl) hcs hsl hst hp (fun q => h q.1 q.2)
theorem sd_cVV {o2 : Option (sm_t)} {K : sm_t → Option ρ} {b ci : Nat} (idx : Nat) (hb : sm_sq b = some (.inr ci)) (hci : ci < 8) (hcl : k2.1.cls = sm_Rn ci) (hd : decode k.2.1 pc = .ok (.invokevirtual idx, 3)) (hl : Cond.methodLink k.1.cls idx k2.1 ∈ sm_tb) (hins : Cond.instanceMethod k2.1 ∈ sm_tb) (hsel : Cond.selects k2.1.cls k2.1 k2.1 ∈ sm_tb) (hme : sm_me k2 As.length) (hz : k2.2.2.2.2.2.1 = 0 ∧ k2.2.2.2.2.2.2 = 0) (hfr : k2.2.2.2.2.1 + 1 ≤ k.2.2.2.2.1 ∧ k2.2.2.1 ≤ 45) (hrs : (rest.map fun v => v.category).sum ≤ 8) (hen : ((.ref b :: As : List Value).flatMap (fun v => if v.category = 2 then [some v, none] else [some v])).length ≤ k2.2.2.1) (hro : k2.2.2.2.1 = none) (hcs : cs ≤ k.2.2.2.2.2.1) (hsl : sl ≤ k.2.2.2.2.2.2) (hst : st = As.reverse ++ .ref b :: rest) (hp : sm_P (sm_jV N) k2 (.ref b :: As : List Value) (sm_m N S) o2) (h : ∀ (S : sm_t), sm_S j k cs sl (pc + 3) lf rest (sm_m N S) (K S)) : sm_S j k cs sl pc lf st (sm_m N S) (sm_cV o2 K) :=
  sd_cV (j2 := sm_jV N) idx (sm_sq_at (n := N) (S := S) hb).1 (sm_sq_at hb).2 hci hcl hd hl hins hsel hme hz hfr hrs hen (fun _ => hro) (fun _ _ => rfl) (fun _ => rfl) hcs hsl hst hp (h)
theorem sd_gs0 {idx : Nat} (hl : Cond.fieldLink k.1.cls idx "TwoFliers$Chart" "STEP_X" "[I" ∈ sm_tb) (hd : decode k.2.1 pc = .ok (.getstatic idx, 3)) (h : sm_S j k cs sl (pc + 3) lf (.ref 0 :: st) M o) : sm_S j k cs sl pc lf st M o := by
  intro r hr nn g0 g p l e R s m args below meth c Q hC hx hn hQ H locs ls hM hS hL
  exact va_gets hC.1 hC.2.1 hC.2.2.2.2.2.2.2.2.2.1.2.1 hS hC.2.2.2.2.1 (hC.2.2.2.2.2.1 _ hl) (fun _ z => z) hd (h r hr nn g0 g p l e R s m args below meth c Q hC hx hn hQ H locs ls hM hS hL)
theorem sd_ts0 {i : Int32} {K : Int32 → Option ρ} (hd : decode k.2.1 pc = .ok (.iaload, 1)) (h : ∀ v : Int32, sm_S j k cs sl (pc + 1) lf (.int v :: st) M (K v)) : sm_S j k cs sl pc lf (.int i :: .ref 0 :: st) M (sm_rd sm_sx 8 i K) := by
  intro r hr nn g0 g p l e R s m args below meth c Q hC hx hn hQ H locs ls hM hS hL
  unfold sm_rd at hr
  split at hr
  · rename_i hi
    exact va_ti hC.1 hC.2.1 hC.2.2.2.2.2.2.2.2.2.1.2.2.2.1 hS (sm_ix_in hi) rfl hd (h _ r hr nn g0 g p l e R s m args below meth c Q hC hx hn hQ H locs ls hM hS hL)
  · cases hr
theorem sd_gs1 {idx : Nat} (hl : Cond.fieldLink k.1.cls idx "TwoFliers$Chart" "STEP_Y" "[I" ∈ sm_tb) (hd : decode k.2.1 pc = .ok (.getstatic idx, 3)) (h : sm_S j k cs sl (pc + 3) lf (.ref 1 :: st) M o) : sm_S j k cs sl pc lf st M o := by
  intro r hr nn g0 g p l e R s m args below meth c Q hC hx hn hQ H locs ls hM hS hL
  exact va_gets hC.1 hC.2.1 hC.2.2.2.2.2.2.2.2.2.1.2.2.1 hS hC.2.2.2.2.1 (hC.2.2.2.2.2.1 _ hl) (fun _ z => z) hd (h r hr nn g0 g p l e R s m args below meth c Q hC hx hn hQ H locs ls hM hS hL)
theorem sd_ts1 {i : Int32} {K : Int32 → Option ρ} (hd : decode k.2.1 pc = .ok (.iaload, 1)) (h : ∀ v : Int32, sm_S j k cs sl (pc + 1) lf (.int v :: st) M (K v)) : sm_S j k cs sl pc lf (.int i :: .ref 1 :: st) M (sm_rd sm_sy 8 i K) := by
  intro r hr nn g0 g p l e R s m args below meth c Q hC hx hn hQ H locs ls hM hS hL
  unfold sm_rd at hr
  split at hr
  · rename_i hi
    exact va_ti hC.1 hC.2.1 hC.2.2.2.2.2.2.2.2.2.1.2.2.2.2.1 hS (sm_ix_in hi) rfl hd (h _ r hr nn g0 g p l e R s m args below meth c Q hC hx hn hQ H locs ls hM hS hL)
  · cases hr
/-- the script (cell 2) -/
theorem sd_sld {i : Int32} {K : Int32 → Option ρ} (hd : decode k.2.1 pc = .ok (.iaload, 1)) (h : ∀ v : Int32, sm_S j k cs sl (pc + 1) lf (.int v :: st) (sm_m N S) (K v)) : sm_S j k cs sl pc lf (.int i :: .ref 2 :: st) (sm_m N S) (sm_rd (S.1 2) N i K) := by
  intro r hr nn g0 g p l e R s m args below meth c Q hC hx hn hQ H locs ls hM hS hL
  unfold sm_rd at hr
  split at hr
  · rename_i hi
    obtain ⟨-, -, -, -, -, h6, h7, h8, -⟩ := hC.2.2.2.2.2.2.2.2.2.1
    have eN : N = g.2.2.1 := by
      have := hM.1.2.2.1
      exact congrArg Prod.snd (Sum.inl.inj (Option.some.inj this))
    have eX : S.1 2 = g.2.2.2.1 := hM.1.2.2.2.2.2
    rw [eX] at hr
    subst eN
    exact va_sld hC.1 hC.2.1 h6 h7 h8 hS (sm_ix_in hi) hd (h _ r hr nn g0 g p l e R s m args below meth c Q hC hx hn hQ H locs ls hM hS hL)
  · cases hr
theorem sd_slen (hd : decode k.2.1 pc = .ok (.arraylength, 1)) (h : sm_S j k cs sl (pc + 1) lf (.int (Int32.ofNat N) :: st) (sm_m N S) o) : sm_S j k cs sl pc lf (.ref 2 :: st) (sm_m N S) o := by
  intro r hr nn g0 g p l e R s m args below meth c Q hC hx hn hQ H locs ls hM hS hL
  obtain ⟨-, -, -, -, -, h6, h7, h8, -⟩ := hC.2.2.2.2.2.2.2.2.2.1
  have eN : N = g.2.2.1 := by
    have := hM.1.2.2.1
    exact congrArg Prod.snd (Sum.inl.inj (Option.some.inj this))
  subst eN
  exact va_slen hC.1 hC.2.1 h6 h7 h8 hS hd (h r hr nn g0 g p l e R s m args below meth c Q hC hx hn hQ H locs ls hM hS hL)
def sm_cp {ρ : Type} (S : sm_t) (a n0 d n1 : Nat) (sp dp n : Int32) (K : sm_t → Option ρ) : Option ρ := if ¬ sp < 0 ∧ ¬ dp < 0 ∧ ¬ n < 0 ∧ sp.toNatClampNeg + n.toNatClampNeg ≤ n0 ∧ dp.toNatClampNeg + n.toNatClampNeg ≤ n1 then K (va_up S.1 d (va_cpy (S.1 a) (S.1 d) sp.toNatClampNeg dp.toNatClampNeg n.toNatClampNeg), S.2) else none
theorem sm_nat : Cond.native arraycopyName ∈ sm_tb ∧ Cond.static arraycopyName ∈ sm_tb ∧ Cond.initialized "java/lang/System" ∈ sm_tb := ⟨sm_at 348 (by decide +kernel) rfl, sm_at 347 (by decide +kernel) rfl, sm_at 78 (by decide +kernel) rfl⟩
theorem sd_copy {a n0 d n1 : Nat} {sp dp n : Int32} {K : sm_t → Option ρ} (idx : Nat) (hl : Cond.methodLink k.1.cls idx arraycopyName ∈ sm_tb) (ha : sm_sq a = some (.inl (.int, n0))) (hd1 : sm_sq d = some (.inl (.int, n1))) (hk : 1 ≤ k.2.2.2.2.1) (hrs : (st.map fun v => v.category).sum ≤ 8) (hd : decode k.2.1 pc = .ok (.invokestatic idx, 3)) (h : ∀ S : sm_t, sm_S j k cs sl (pc + 3) lf st (sm_m N S) (K S)) : sm_S j k cs sl pc lf (.int n :: .int dp :: .ref d :: .int sp :: .ref a :: st) (sm_m N S) (sm_cp S a n0 d n1 sp dp n K) := by
  intro r hr nn g0 g p l e R s m args below meth c Q hC hx hn hQ H locs ls hM hS hL
  unfold sm_cp at hr
  split at hr
  · rename_i hi
    obtain ⟨i1, i2, i3, i4, i5⟩ := hi
    obtain ⟨h3, hs'⟩ := sm_sq_at (n := N) (S := S) ha
    obtain ⟨h4, ht'⟩ := sm_sq_at (n := N) (S := S) hd1
    have hw : (sm_w g (sm_m N S))[a - 3]? = some (g.1 a, .inl (g.2.2.2.2.2 .int, n0, .inl (S.1 a))) := sm_w_at hs' h3
    have hw2 : (sm_w g (sm_m N S))[d - 3]? = some (g.1 d, .inl (g.2.2.2.2.2 .int, n1, .inl (S.1 d))) := sm_w_at ht' h4
    have hts := hC.2.2.2.2.2.1
    have hfr : 1 ≤ R.frames := Nat.le_trans hk hC.2.2.2.2.2.2.2.2.2.2.1
    have hlo : ((st.map (sm_tv g)).map fun v => v.category).sum + (nativeFrameWords "java/lang/System" "arraycopy" 5 + 11) ≤ R.locals := by
      rw [sm_cats]
      have h1 := hC.2.2.2.2.2.2.2.2.2.2.2.1
      have h2 : nativeFrameWords "java/lang/System" "arraycopy" 5 ≤ 45 := by decide +kernel
      omega
    refine va_copyi hC.1 hC.2.1 (hC.2.2.2.1.trans hL.1.symm) hC.2.2.2.2.1 (hts _ hl) (hts _ sm_nat.1) (hts _ sm_nat.2.1) (hts _ sm_nat.2.2) hC.2.2.2.2.2.2.2.2.2.1.1 hM.2.1 hM.2.2 hS (a - 3) (d - 3) 0 0 hw hw2 rfl rfl rfl i1 i2 i3 i4 i5 (fun _ _ => rfl) hfr hlo hd (fun H1 locs1 hP1 hD1 hS1 => ?_)
    exact h _ r hr nn g0 g p l e R s m args below meth c Q hC hx hn hQ H1 locs1 ls (sm_R_set (M' := sm_m N (va_up S.1 d (va_cpy (S.1 a) (S.1 d) sp.toNatClampNeg dp.toNatClampNeg n.toNatClampNeg), S.2)) hM rfl (fun b hb => ⟨sm_up_o _ _ hb, rfl, rfl⟩) ht' h4 (by simp only [sm_ce, sm_ar, sm_kd, sm_m, sm_up_s]) hP1 hD1) hS1 hL
  · cases hr
def sm_mx (x y : Int32) : Int32 := if x < y then y else x
def sm_mi (x y : Int32) : Int32 := if y < x then y else x
def sm_ab (x : Int32) : Int32 := if 0 ≤ x then x else 0 - x
def sm_al (x : Int64) : Int64 := if 0 < x then x else -x
theorem sm_wmmax : Cond.static Lib.Math.max.name ∈ sm_tb ∧ Cond.initialized "java/lang/Math" ∈ sm_tb ∧ Cond.code Lib.Math.max.name Lib.Math.max.code 2 (some .int) ∈ sm_tb := ⟨sm_at 451 (by decide +kernel) rfl, sm_at 80 (by decide +kernel) rfl, sm_at 452 (by decide +kernel) rfl⟩
theorem sd_mmax {x y : Int32} (idx : Nat) (hl : Cond.methodLink k.1.cls idx Lib.Math.max.name ∈ sm_tb) (hk : 1 ≤ k.2.2.2.2.1) (hrs : (st.map fun v => v.category).sum ≤ 8) (hcs : cs ≤ k.2.2.2.2.2.1) (hsl : sl ≤ k.2.2.2.2.2.2) (hd : decode k.2.1 pc = .ok (.invokestatic idx, 3)) (h : sm_S j k cs sl (pc + 3) lf (.int (sm_mx x y) :: st) M o) : sm_S j k cs sl pc lf (.int y :: .int x :: st) M o := by
  intro r hr nn g0 g p l e R s m args below meth c Q hC hx hn hQ H locs ls hM hS hL
  have hts := hC.2.2.2.2.2.1
  have hfr : 1 ≤ R.frames := Nat.le_trans hk hC.2.2.2.2.2.2.2.2.2.2.1
  have hlo : ((st.map (sm_tv g)).map fun v => v.category).sum + 13 ≤ R.locals := by
    rw [sm_cats]
    have h1 := hC.2.2.2.2.2.2.2.2.2.2.2.1
    omega
  exact va_mmax hC.1 hC.2.1 (hC.2.2.2.1.trans hL.1.symm) hC.2.2.2.2.1 (hts _ hl) (hts _ sm_wmmax.1) (hts _ sm_wmmax.2.1) (hts _ sm_wmmax.2.2) hfr hlo (Nat.le_trans hcs hC.2.2.2.2.2.2.2.2.2.2.2.2.1) (Nat.le_trans hsl hC.2.2.2.2.2.2.2.2.2.2.2.2.2) hd (h r hr nn g0 g p l e R s m args below meth c Q hC hx hn hQ H locs ls hM hS hL)
theorem sm_wmmin : Cond.static Lib.Math.min.name ∈ sm_tb ∧ Cond.initialized "java/lang/Math" ∈ sm_tb ∧ Cond.code Lib.Math.min.name Lib.Math.min.code 2 (some .int) ∈ sm_tb := ⟨sm_at 554 (by decide +kernel) rfl, sm_at 80 (by decide +kernel) rfl, sm_at 555 (by decide +kernel) rfl⟩
theorem sd_mmin {x y : Int32} (idx : Nat) (hl : Cond.methodLink k.1.cls idx Lib.Math.min.name ∈ sm_tb) (hk : 1 ≤ k.2.2.2.2.1) (hrs : (st.map fun v => v.category).sum ≤ 8) (hcs : cs ≤ k.2.2.2.2.2.1) (hsl : sl ≤ k.2.2.2.2.2.2) (hd : decode k.2.1 pc = .ok (.invokestatic idx, 3)) (h : sm_S j k cs sl (pc + 3) lf (.int (sm_mi x y) :: st) M o) : sm_S j k cs sl pc lf (.int y :: .int x :: st) M o := by
  intro r hr nn g0 g p l e R s m args below meth c Q hC hx hn hQ H locs ls hM hS hL
  have hts := hC.2.2.2.2.2.1
  have hfr : 1 ≤ R.frames := Nat.le_trans hk hC.2.2.2.2.2.2.2.2.2.2.1
  have hlo : ((st.map (sm_tv g)).map fun v => v.category).sum + 13 ≤ R.locals := by
    rw [sm_cats]
    have h1 := hC.2.2.2.2.2.2.2.2.2.2.2.1
    omega
  exact va_mmin hC.1 hC.2.1 (hC.2.2.2.1.trans hL.1.symm) hC.2.2.2.2.1 (hts _ hl) (hts _ sm_wmmin.1) (hts _ sm_wmmin.2.1) (hts _ sm_wmmin.2.2) hfr hlo (Nat.le_trans hcs hC.2.2.2.2.2.2.2.2.2.2.2.2.1) (Nat.le_trans hsl hC.2.2.2.2.2.2.2.2.2.2.2.2.2) hd (h r hr nn g0 g p l e R s m args below meth c Q hC hx hn hQ H locs ls hM hS hL)
theorem sm_wmabs : Cond.static Lib.Math.abs.name ∈ sm_tb ∧ Cond.initialized "java/lang/Math" ∈ sm_tb ∧ Cond.code Lib.Math.abs.name Lib.Math.abs.code 1 (some .int) ∈ sm_tb := ⟨sm_at 448 (by decide +kernel) rfl, sm_at 80 (by decide +kernel) rfl, sm_at 449 (by decide +kernel) rfl⟩
theorem sd_mabs {x : Int32} (idx : Nat) (hl : Cond.methodLink k.1.cls idx Lib.Math.abs.name ∈ sm_tb) (hk : 1 ≤ k.2.2.2.2.1) (hrs : (st.map fun v => v.category).sum ≤ 8) (hcs : cs ≤ k.2.2.2.2.2.1) (hsl : sl ≤ k.2.2.2.2.2.2) (hd : decode k.2.1 pc = .ok (.invokestatic idx, 3)) (h : sm_S j k cs sl (pc + 3) lf (.int (sm_ab x) :: st) M o) : sm_S j k cs sl pc lf (.int x :: st) M o := by
  intro r hr nn g0 g p l e R s m args below meth c Q hC hx hn hQ H locs ls hM hS hL
  have hts := hC.2.2.2.2.2.1
  have hfr : 1 ≤ R.frames := Nat.le_trans hk hC.2.2.2.2.2.2.2.2.2.2.1
  have hlo : ((st.map (sm_tv g)).map fun v => v.category).sum + 13 ≤ R.locals := by
    rw [sm_cats]
    have h1 := hC.2.2.2.2.2.2.2.2.2.2.2.1
    omega
  exact va_mabs hC.1 hC.2.1 (hC.2.2.2.1.trans hL.1.symm) hC.2.2.2.2.1 (hts _ hl) (hts _ sm_wmabs.1) (hts _ sm_wmabs.2.1) (hts _ sm_wmabs.2.2) hfr hlo (Nat.le_trans hcs hC.2.2.2.2.2.2.2.2.2.2.2.2.1) (Nat.le_trans hsl hC.2.2.2.2.2.2.2.2.2.2.2.2.2) hd (h r hr nn g0 g p l e R s m args below meth c Q hC hx hn hQ H locs ls hM hS hL)
theorem sm_wmabs_long : Cond.static Lib.MathLoose.abs_long.x ∈ sm_tb ∧ Cond.initialized "java/lang/Math" ∈ sm_tb ∧ Cond.code Lib.MathLoose.abs_long.x Lib.MathLoose.abs_long.code 2 (some .long) ∈ sm_tb := ⟨sm_at 675 (by decide +kernel) rfl, sm_at 80 (by decide +kernel) rfl, sm_at 676 (by decide +kernel) rfl⟩
theorem sd_mabs_long {x : Int64} (idx : Nat) (hl : Cond.methodLink k.1.cls idx Lib.MathLoose.abs_long.x ∈ sm_tb) (hk : 1 ≤ k.2.2.2.2.1) (hrs : (st.map fun v => v.category).sum ≤ 8) (hcs : cs ≤ k.2.2.2.2.2.1) (hsl : sl ≤ k.2.2.2.2.2.2) (hd : decode k.2.1 pc = .ok (.invokestatic idx, 3)) (h : sm_S j k cs sl (pc + 3) lf (.long (sm_al x) :: st) M o) : sm_S j k cs sl pc lf (.long x :: st) M o := by
  intro r hr nn g0 g p l e R s m args below meth c Q hC hx hn hQ H locs ls hM hS hL
  have hts := hC.2.2.2.2.2.1
  have hfr : 1 ≤ R.frames := Nat.le_trans hk hC.2.2.2.2.2.2.2.2.2.2.1
  have hlo : ((st.map (sm_tv g)).map fun v => v.category).sum + 13 ≤ R.locals := by
    rw [sm_cats]
    have h1 := hC.2.2.2.2.2.2.2.2.2.2.2.1
    omega
  exact va_mabs_long hC.1 hC.2.1 (hC.2.2.2.1.trans hL.1.symm) hC.2.2.2.2.1 (hts _ hl) (hts _ sm_wmabs_long.1) (hts _ sm_wmabs_long.2.1) (hts _ sm_wmabs_long.2.2) hfr hlo (Nat.le_trans hcs hC.2.2.2.2.2.2.2.2.2.2.2.2.1) (Nat.le_trans hsl hC.2.2.2.2.2.2.2.2.2.2.2.2.2) hd (h r hr nn g0 g p l e R s m args below meth c Q hC hx hn hQ H locs ls hM hS hL)
end
end
section
/-! ===== the three references that change; switches ===== -/
theorem sm_so {x lo hi : Int32} {l h : Int} (hl : lo.toInt = l) (hh : hi.toInt = h) (q : x < lo ∨ hi < x) : x.toInt < l ∨ h < x.toInt := by
  rcases q with q | q
  · exact Or.inl (hl ▸ Int32.lt_iff_toInt_lt.mp q)
  · exact Or.inr (hh ▸ Int32.lt_iff_toInt_lt.mp q)
section
variable {ρ : Type} {j : ρ → Option Value × sm_M} {k : sm_K} {cs sl pc N : Nat} {lf : List (Option Value)} {st : List Value} {S : sm_t}
theorem sd_pnw {idx b : Nat} {K : sm_t → Option ρ} (hf : sm_fl k.1.cls idx 1 6) (hd : decode k.2.1 pc = .ok (.putfield idx, 3)) (h : ∀ S : sm_t, sm_S j k cs sl (pc + 3) lf st (sm_m N S) (K S)) : sm_S j k cs sl pc lf (.ref b :: .ref 18 :: st) (sm_m N S) (sm_n ((S.1, S.2.1, b, S.2.2.2) : sm_t) K) :=
  sd_putR (S' := (S.1, S.2.1, b, S.2.2.2)) (ci := 1) (i := 6) rfl rfl (fun _ => ⟨rfl, rfl⟩) hf rfl rfl rfl (fun x hx => by funext z; simp [sm_m, sm_r0, hx]) (fun x hx => by
    match x, hx with
    | 0, _ => rfl
    | 1, _ => rfl
    | 2, _ => rfl
    | 3, _ => rfl
    | 4, _ => rfl
    | 5, _ => rfl
    | 6, _ => rfl
    | 7, _ => rfl) hd (h _)
theorem sd_pnx {idx b : Nat} {K : sm_t → Option ρ} (hf : sm_fl k.1.cls idx 1 7) (hd : decode k.2.1 pc = .ok (.putfield idx, 3)) (h : ∀ S : sm_t, sm_S j k cs sl (pc + 3) lf st (sm_m N S) (K S)) : sm_S j k cs sl pc lf (.ref b :: .ref 18 :: st) (sm_m N S) (sm_n ((S.1, S.2.1, S.2.2.1, b, S.2.2.2.2) : sm_t) K) :=
  sd_putR (S' := (S.1, S.2.1, S.2.2.1, b, S.2.2.2.2)) (ci := 1) (i := 7) rfl rfl (fun _ => ⟨rfl, rfl⟩) hf rfl rfl rfl (fun x hx => by funext z; simp [sm_m, sm_r0, hx]) (fun x hx => by
    match x, hx with
    | 0, _ => rfl
    | 1, _ => rfl
    | 2, _ => rfl
    | 3, _ => rfl
    | 4, _ => rfl
    | 5, _ => rfl
    | 6, _ => rfl
    | 7, _ => rfl) hd (h _)
theorem sd_ptx {idx b : Nat} {K : sm_t → Option ρ} (hf : sm_fl k.1.cls idx 3 0) (hd : decode k.2.1 pc = .ok (.putfield idx, 3)) (h : ∀ S : sm_t, sm_S j k cs sl (pc + 3) lf st (sm_m N S) (K S)) : sm_S j k cs sl pc lf (.ref b :: .ref 45 :: st) (sm_m N S) (sm_n ((S.1, S.2.1, S.2.2.1, S.2.2.2.1, some b) : sm_t) K) :=
  sd_putR (S' := (S.1, S.2.1, S.2.2.1, S.2.2.2.1, some b)) (ci := 3) (i := 0) rfl rfl (fun _ => ⟨rfl, rfl⟩) hf rfl rfl rfl (fun x hx => by funext z; simp [sm_m, sm_r0, hx]) (fun x hx => by
    match x, hx with
    | 0, _ => rfl
    | 1, _ => rfl
    | 2, _ => rfl
    | 3, _ => rfl
    | 4, _ => rfl
    | 5, _ => rfl) hd (h _)
end
/-! a word by its place in one of the tables -/
theorem sm_qq {w : Cond} (h : w ∈ tables_1) (hg : goodWord w = true) : w ∈ sm_tb := List.mem_filter.mpr ⟨List.mem_append_right _ h, hg⟩
theorem sm_q1 (i : Nat) {w : Cond} (h : tables_1_1[i]? = some w) (hg : goodWord w = true) : w ∈ sm_tb := sm_qq (List.mem_append_left _ (List.mem_of_getElem? h)) hg
theorem sm_q2 (i : Nat) {w : Cond} (h : tables_1_2[i]? = some w) (hg : goodWord w = true) : w ∈ sm_tb := sm_qq (List.mem_append_right _ (List.mem_append_left _ (List.mem_of_getElem? h))) hg
theorem sm_q3 (i : Nat) {w : Cond} (h : tables_1_3[i]? = some w) (hg : goodWord w = true) : w ∈ sm_tb := sm_qq (List.mem_append_right _ (List.mem_append_right _ (List.mem_append_left _ (List.mem_of_getElem? h)))) hg
theorem sm_q4 (i : Nat) {w : Cond} (h : tables_1_4[i]? = some w) (hg : goodWord w = true) : w ∈ sm_tb := sm_qq (List.mem_append_right _ (List.mem_append_right _ (List.mem_append_right _ (List.mem_append_left _ (List.mem_of_getElem? h))))) hg
theorem sm_q5 (i : Nat) {w : Cond} (h : tables_1_5[i]? = some w) (hg : goodWord w = true) : w ∈ sm_tb := sm_qq (List.mem_append_right _ (List.mem_append_right _ (List.mem_append_right _ (List.mem_append_right _ (List.mem_append_left _ (List.mem_of_getElem? h)))))) hg
theorem sm_q6 (i : Nat) {w : Cond} (h : tables_1_6[i]? = some w) (hg : goodWord w = true) : w ∈ sm_tb := sm_qq (List.mem_append_right _ (List.mem_append_right _ (List.mem_append_right _ (List.mem_append_right _ (List.mem_append_right _ (List.mem_of_getElem? h)))))) hg
end
section
theorem pd__28IIIII_29I : (parseMethodDescriptor "(IIIII)I").map (fun d => d.parameters.length) = some 5 := by decide +kernel
theorem pd__28IIII_29I : (parseMethodDescriptor "(IIII)I").map (fun d => d.parameters.length) = some 4 := by decide +kernel
theorem pd__28IIII_29V : (parseMethodDescriptor "(IIII)V").map (fun d => d.parameters.length) = some 4 := by decide +kernel
theorem pd__28IIII_29Z : (parseMethodDescriptor "(IIII)Z").map (fun d => d.parameters.length) = some 4 := by decide +kernel
theorem pd__28IIIJI_29V : (parseMethodDescriptor "(IIIJI)V").map (fun d => d.parameters.length) = some 5 := by decide +kernel
theorem pd__28III_29I : (parseMethodDescriptor "(III)I").map (fun d => d.parameters.length) = some 3 := by decide +kernel
theorem pd__28III_29J : (parseMethodDescriptor "(III)J").map (fun d => d.parameters.length) = some 3 := by decide +kernel
theorem pd__28III_29Z : (parseMethodDescriptor "(III)Z").map (fun d => d.parameters.length) = some 3 := by decide +kernel
theorem pd__28II_29I : (parseMethodDescriptor "(II)I").map (fun d => d.parameters.length) = some 2 := by decide +kernel
theorem pd__28II_29J : (parseMethodDescriptor "(II)J").map (fun d => d.parameters.length) = some 2 := by decide +kernel
theorem pd__28II_29V : (parseMethodDescriptor "(II)V").map (fun d => d.parameters.length) = some 2 := by decide +kernel
theorem pd__28II_29Z : (parseMethodDescriptor "(II)Z").map (fun d => d.parameters.length) = some 2 := by decide +kernel
theorem pd__28I_29I : (parseMethodDescriptor "(I)I").map (fun d => d.parameters.length) = some 1 := by decide +kernel
theorem pd__28I_29J : (parseMethodDescriptor "(I)J").map (fun d => d.parameters.length) = some 1 := by decide +kernel
theorem pd__28I_29V : (parseMethodDescriptor "(I)V").map (fun d => d.parameters.length) = some 1 := by decide +kernel
theorem pd__28I_29Z : (parseMethodDescriptor "(I)Z").map (fun d => d.parameters.length) = some 1 := by decide +kernel
theorem pd__28I_5bII_29V : (parseMethodDescriptor "(I[II)V").map (fun d => d.parameters.length) = some 3 := by decide +kernel
theorem pd__28JJI_29I : (parseMethodDescriptor "(JJI)I").map (fun d => d.parameters.length) = some 3 := by decide +kernel
theorem pd__28JJ_29J : (parseMethodDescriptor "(JJ)J").map (fun d => d.parameters.length) = some 2 := by decide +kernel
theorem pd__28JJ_29V : (parseMethodDescriptor "(JJ)V").map (fun d => d.parameters.length) = some 2 := by decide +kernel
theorem pd__28J_5bII_29J : (parseMethodDescriptor "(J[II)J").map (fun d => d.parameters.length) = some 3 := by decide +kernel
theorem pd__28LTwoFliers_24Ship_3b_5bJJIJ_29V : (parseMethodDescriptor "(LTwoFliers$Ship;[JJIJ)V").map (fun d => d.parameters.length) = some 5 := by decide +kernel
theorem pd__28_29I : (parseMethodDescriptor "()I").map (fun d => d.parameters.length) = some 0 := by decide +kernel
theorem pd__28_29J : (parseMethodDescriptor "()J").map (fun d => d.parameters.length) = some 0 := by decide +kernel
theorem pd__28_29V : (parseMethodDescriptor "()V").map (fun d => d.parameters.length) = some 0 := by decide +kernel
theorem pd__28_29Z : (parseMethodDescriptor "()Z").map (fun d => d.parameters.length) = some 0 := by decide +kernel
theorem pd__28_5bBB_29V : (parseMethodDescriptor "([BB)V").map (fun d => d.parameters.length) = some 2 := by decide +kernel
theorem pd__28_5bBI_29I : (parseMethodDescriptor "([BI)I").map (fun d => d.parameters.length) = some 2 := by decide +kernel
theorem pd__28_5bIII_29Z : (parseMethodDescriptor "([III)Z").map (fun d => d.parameters.length) = some 3 := by decide +kernel
theorem pd__28_5bII_29J : (parseMethodDescriptor "([II)J").map (fun d => d.parameters.length) = some 2 := by decide +kernel
theorem pd__28_5bII_29V : (parseMethodDescriptor "([II)V").map (fun d => d.parameters.length) = some 2 := by decide +kernel
theorem pd__28_5bI_29I : (parseMethodDescriptor "([I)I").map (fun d => d.parameters.length) = some 1 := by decide +kernel
theorem pd__28_5bI_29V : (parseMethodDescriptor "([I)V").map (fun d => d.parameters.length) = some 1 := by decide +kernel
theorem pd__28_5bI_29Z : (parseMethodDescriptor "([I)Z").map (fun d => d.parameters.length) = some 1 := by decide +kernel
theorem pd__28_5bJJII_29J : (parseMethodDescriptor "([JJII)J").map (fun d => d.parameters.length) = some 4 := by decide +kernel
theorem pd__28_5bJJ_29V : (parseMethodDescriptor "([JJ)V").map (fun d => d.parameters.length) = some 2 := by decide +kernel
theorem pn0 : plainName "TwoFliers$Book" = true ∧ Cond.initialized "TwoFliers$Book" ∈ sm_tb ∧ "TwoFliers$Book" ≠ "java/lang/invoke/MethodHandle" ∧ "TwoFliers$Book" ≠ "java/lang/invoke/VarHandle" := ⟨by decide +kernel, sm_q1 4 rfl rfl, by decide +kernel, by decide +kernel⟩
theorem pn1 : plainName "TwoFliers$Chart" = true ∧ Cond.initialized "TwoFliers$Chart" ∈ sm_tb ∧ "TwoFliers$Chart" ≠ "java/lang/invoke/MethodHandle" ∧ "TwoFliers$Chart" ≠ "java/lang/invoke/VarHandle" := ⟨by decide +kernel, sm_q1 11 rfl rfl, by decide +kernel, by decide +kernel⟩
theorem pn2 : plainName "TwoFliers$Odds" = true ∧ Cond.initialized "TwoFliers$Odds" ∈ sm_tb ∧ "TwoFliers$Odds" ≠ "java/lang/invoke/MethodHandle" ∧ "TwoFliers$Odds" ≠ "java/lang/invoke/VarHandle" := ⟨by decide +kernel, sm_q1 2 rfl rfl, by decide +kernel, by decide +kernel⟩
theorem pn3 : plainName "TwoFliers$Plane" = true ∧ Cond.initialized "TwoFliers$Plane" ∈ sm_tb ∧ "TwoFliers$Plane" ≠ "java/lang/invoke/MethodHandle" ∧ "TwoFliers$Plane" ≠ "java/lang/invoke/VarHandle" := ⟨by decide +kernel, sm_q1 3 rfl rfl, by decide +kernel, by decide +kernel⟩
theorem pn4 : plainName "TwoFliers$Reader" = true ∧ Cond.initialized "TwoFliers$Reader" ∈ sm_tb ∧ "TwoFliers$Reader" ≠ "java/lang/invoke/MethodHandle" ∧ "TwoFliers$Reader" ≠ "java/lang/invoke/VarHandle" := ⟨by decide +kernel, sm_q1 6 rfl rfl, by decide +kernel, by decide +kernel⟩
theorem pn5 : plainName "TwoFliers$Ship" = true ∧ Cond.initialized "TwoFliers$Ship" ∈ sm_tb ∧ "TwoFliers$Ship" ≠ "java/lang/invoke/MethodHandle" ∧ "TwoFliers$Ship" ≠ "java/lang/invoke/VarHandle" := ⟨by decide +kernel, sm_q1 7 rfl rfl, by decide +kernel, by decide +kernel⟩
theorem pn6 : plainName "TwoFliers$Sign" = true ∧ Cond.initialized "TwoFliers$Sign" ∈ sm_tb ∧ "TwoFliers$Sign" ≠ "java/lang/invoke/MethodHandle" ∧ "TwoFliers$Sign" ≠ "java/lang/invoke/VarHandle" := ⟨by decide +kernel, sm_q1 5 rfl rfl, by decide +kernel, by decide +kernel⟩
theorem pn7 : plainName "TwoFliers" = true ∧ Cond.initialized "TwoFliers" ∈ sm_tb ∧ "TwoFliers" ≠ "java/lang/invoke/MethodHandle" ∧ "TwoFliers" ≠ "java/lang/invoke/VarHandle" := ⟨by decide +kernel, sm_q1 1 rfl rfl, by decide +kernel, by decide +kernel⟩
theorem pn8 : plainName "TwoFliersModel" = true ∧ Cond.initialized "TwoFliersModel" ∈ sm_tb ∧ "TwoFliersModel" ≠ "java/lang/invoke/MethodHandle" ∧ "TwoFliersModel" ≠ "java/lang/invoke/VarHandle" := ⟨by decide +kernel, sm_q1 9 rfl rfl, by decide +kernel, by decide +kernel⟩
theorem pnA : plainName "java/util/Arrays" = true ∧ Cond.initialized "java/util/Arrays" ∈ sm_tb ∧ "java/util/Arrays" ≠ "java/lang/invoke/MethodHandle" ∧ "java/util/Arrays" ≠ "java/lang/invoke/VarHandle" := ⟨by decide +kernel, sm_q1 8 rfl rfl, by decide +kernel, by decide +kernel⟩
theorem pnJ : plainName "java/lang/Integer" = true ∧ Cond.initialized "java/lang/Integer" ∈ sm_tb ∧ "java/lang/Integer" ≠ "java/lang/invoke/MethodHandle" ∧ "java/lang/Integer" ≠ "java/lang/invoke/VarHandle" := ⟨by decide +kernel, sm_q1 13 rfl rfl, by decide +kernel, by decide +kernel⟩
def k7_isRow : sm_K := (⟨"TwoFliers", "isRow", "(I)Z"⟩, prog_1_method_50_code, 1, some .boolean, 1, 0, 0)
theorem me7_isRow : sm_me k7_isRow 1 := ⟨pn7.1, sm_q2 6 rfl rfl, pn7.2.1, pn7.2.2.1, pn7.2.2.2, pd__28I_29Z⟩
theorem ms7_isRow : Cond.static k7_isRow.1 ∈ sm_tb := sm_q2 5 rfl rfl
def k7_found : sm_K := (⟨"TwoFliers", "found", "(I)I"⟩, prog_1_method_57_code, 2, some .int, 1, 0, 0)
theorem me7_found : sm_me k7_found 1 := ⟨pn7.1, sm_q2 10 rfl rfl, pn7.2.1, pn7.2.2.1, pn7.2.2.2, pd__28I_29I⟩
theorem ms7_found : Cond.instanceMethod k7_found.1 ∈ sm_tb ∧ Cond.selects k7_found.1.cls k7_found.1 k7_found.1 ∈ sm_tb := ⟨sm_q2 9 rfl rfl, sm_at 0 (by decide +kernel) rfl⟩
def kA_fillI : sm_K := (⟨"java/util/Arrays", "fill", "([II)V"⟩, prog_14_method_103_code, 4, none, 1, 0, 0)
theorem meA_fillI : sm_me kA_fillI 2 := ⟨pnA.1, sm_q1 190 rfl rfl, pnA.2.1, pnA.2.2.1, pnA.2.2.2, pd__28_5bII_29V⟩
theorem msA_fillI : Cond.static kA_fillI.1 ∈ sm_tb := sm_q1 189 rfl rfl
def k7_renew : sm_K := (⟨"TwoFliers", "renew", "(II)V"⟩, prog_1_method_56_code, 3, none, 2, 0, 0)
theorem me7_renew : sm_me k7_renew 2 := ⟨pn7.1, sm_q2 14 rfl rfl, pn7.2.1, pn7.2.2.1, pn7.2.2.2, pd__28II_29V⟩
theorem ms7_renew : Cond.instanceMethod k7_renew.1 ∈ sm_tb ∧ Cond.selects k7_renew.1.cls k7_renew.1 k7_renew.1 ∈ sm_tb := ⟨sm_q2 13 rfl rfl, sm_at 1 (by decide +kernel) rfl⟩
def k7_row : sm_K := (⟨"TwoFliers", "row", "(II)I"⟩, prog_1_method_2_code, 3, some .int, 3, 0, 0)
theorem me7_row : sm_me k7_row 2 := ⟨pn7.1, sm_q2 3 rfl rfl, pn7.2.1, pn7.2.2.1, pn7.2.2.2, pd__28II_29I⟩
theorem ms7_row : Cond.instanceMethod k7_row.1 ∈ sm_tb ∧ Cond.selects k7_row.1.cls k7_row.1 k7_row.1 ∈ sm_tb := ⟨sm_q2 1 rfl rfl, sm_q2 2 rfl rfl⟩
def k8_in : sm_K := (⟨"TwoFliersModel", "in", "(III)Z"⟩, prog_10_method_3_code, 3, some .boolean, 1, 0, 0)
theorem me8_in : sm_me k8_in 3 := ⟨pn8.1, sm_q4 204 rfl rfl, pn8.2.1, pn8.2.2.1, pn8.2.2.2, pd__28III_29Z⟩
theorem ms8_in : Cond.static k8_in.1 ∈ sm_tb := sm_q4 203 rfl rfl
def k8_isRow : sm_K := (⟨"TwoFliersModel", "isRow", "(I)Z"⟩, prog_10_method_8_code, 1, some .boolean, 2, 0, 0)
theorem me8_isRow : sm_me k8_isRow 1 := ⟨pn8.1, sm_q4 201 rfl rfl, pn8.2.1, pn8.2.2.1, pn8.2.2.2, pd__28I_29Z⟩
theorem ms8_isRow : Cond.static k8_isRow.1 ∈ sm_tb := sm_q4 200 rfl rfl
def k8_meets : sm_K := (⟨"TwoFliersModel", "meets", "(I)I"⟩, prog_10_method_4_code, 2, some .int, 1, 0, 0)
theorem me8_meets : sm_me k8_meets 1 := ⟨pn8.1, sm_q4 208 rfl rfl, pn8.2.1, pn8.2.2.1, pn8.2.2.2, pd__28I_29I⟩
theorem ms8_meets : Cond.instanceMethod k8_meets.1 ∈ sm_tb ∧ Cond.selects k8_meets.1.cls k8_meets.1 k8_meets.1 ∈ sm_tb := ⟨sm_q4 207 rfl rfl, sm_at 29 (by decide +kernel) rfl⟩
def k8_row : sm_K := (⟨"TwoFliersModel", "row", "(II)I"⟩, prog_10_method_13_code, 4, some .int, 3, 0, 0)
theorem me8_row : sm_me k8_row 2 := ⟨pn8.1, sm_q4 198 rfl rfl, pn8.2.1, pn8.2.2.1, pn8.2.2.2, pd__28II_29I⟩
theorem ms8_row : Cond.instanceMethod k8_row.1 ∈ sm_tb ∧ Cond.selects k8_row.1.cls k8_row.1 k8_row.1 ∈ sm_tb := ⟨sm_q4 196 rfl rfl, sm_q4 197 rfl rfl⟩
def k7_barredPlace : sm_K := (⟨"TwoFliers", "barredPlace", "(II)I"⟩, prog_1_method_55_code, 3, some .int, 2, 0, 0)
theorem me7_barredPlace : sm_me k7_barredPlace 2 := ⟨pn7.1, sm_q2 22 rfl rfl, pn7.2.1, pn7.2.2.1, pn7.2.2.2, pd__28II_29I⟩
theorem ms7_barredPlace : Cond.instanceMethod k7_barredPlace.1 ∈ sm_tb ∧ Cond.selects k7_barredPlace.1.cls k7_barredPlace.1 k7_barredPlace.1 ∈ sm_tb := ⟨sm_q2 21 rfl rfl, sm_at 2 (by decide +kernel) rfl⟩
def k7_lay : sm_K := (⟨"TwoFliers", "lay", "(III)I"⟩, prog_1_method_3_code, 5, some .int, 3, 0, 0)
theorem me7_lay : sm_me k7_lay 3 := ⟨pn7.1, sm_q2 18 rfl rfl, pn7.2.1, pn7.2.2.1, pn7.2.2.2, pd__28III_29I⟩
theorem ms7_lay : Cond.instanceMethod k7_lay.1 ∈ sm_tb ∧ Cond.selects k7_lay.1.cls k7_lay.1 k7_lay.1 ∈ sm_tb := ⟨sm_q2 16 rfl rfl, sm_q2 17 rfl rfl⟩
def k8_askedRow : sm_K := (⟨"TwoFliersModel", "askedRow", "(I)I"⟩, prog_10_method_10_code, 2, some .int, 3, 0, 0)
theorem me8_askedRow : sm_me k8_askedRow 1 := ⟨pn8.1, sm_q4 216 rfl rfl, pn8.2.1, pn8.2.2.1, pn8.2.2.2, pd__28I_29I⟩
theorem ms8_askedRow : Cond.instanceMethod k8_askedRow.1 ∈ sm_tb ∧ Cond.selects k8_askedRow.1.cls k8_askedRow.1 k8_askedRow.1 ∈ sm_tb := ⟨sm_q4 215 rfl rfl, sm_at 30 (by decide +kernel) rfl⟩
def k8_rowAt : sm_K := (⟨"TwoFliersModel", "rowAt", "(II)I"⟩, prog_10_method_12_code, 3, some .int, 1, 0, 0)
theorem me8_rowAt : sm_me k8_rowAt 2 := ⟨pn8.1, sm_q4 220 rfl rfl, pn8.2.1, pn8.2.2.1, pn8.2.2.2, pd__28II_29I⟩
theorem ms8_rowAt : Cond.instanceMethod k8_rowAt.1 ∈ sm_tb ∧ Cond.selects k8_rowAt.1.cls k8_rowAt.1 k8_rowAt.1 ∈ sm_tb := ⟨sm_q4 219 rfl rfl, sm_at 31 (by decide +kernel) rfl⟩
def k8_ask : sm_K := (⟨"TwoFliersModel", "ask", "(II)I"⟩, prog_10_method_5_code, 3, some .int, 1, 0, 0)
theorem me8_ask : sm_me k8_ask 2 := ⟨pn8.1, sm_q4 224 rfl rfl, pn8.2.1, pn8.2.2.1, pn8.2.2.2, pd__28II_29I⟩
theorem ms8_ask : Cond.instanceMethod k8_ask.1 ∈ sm_tb ∧ Cond.selects k8_ask.1.cls k8_ask.1 k8_ask.1 ∈ sm_tb := ⟨sm_q4 223 rfl rfl, sm_at 32 (by decide +kernel) rfl⟩
def k8_at : sm_K := (⟨"TwoFliersModel", "at", "(II)I"⟩, prog_10_method_14_code, 4, some .int, 4, 0, 0)
theorem me8_at : sm_me k8_at 2 := ⟨pn8.1, sm_q4 212 rfl rfl, pn8.2.1, pn8.2.2.1, pn8.2.2.2, pd__28II_29I⟩
theorem ms8_at : Cond.instanceMethod k8_at.1 ∈ sm_tb ∧ Cond.selects k8_at.1.cls k8_at.1 k8_at.1 ∈ sm_tb := ⟨sm_q4 210 rfl rfl, sm_q4 211 rfl rfl⟩
def k8_lay : sm_K := (⟨"TwoFliersModel", "lay", "(III)I"⟩, prog_10_method_15_code, 5, some .int, 5, 0, 0)
theorem me8_lay : sm_me k8_lay 3 := ⟨pn8.1, sm_q4 228 rfl rfl, pn8.2.1, pn8.2.2.1, pn8.2.2.2, pd__28III_29I⟩
theorem ms8_lay : Cond.instanceMethod k8_lay.1 ∈ sm_tb ∧ Cond.selects k8_lay.1.cls k8_lay.1 k8_lay.1 ∈ sm_tb := ⟨sm_q4 226 rfl rfl, sm_q4 227 rfl rfl⟩
def k7_at : sm_K := (⟨"TwoFliers", "at", "(II)I"⟩, prog_1_method_4_code, 4, some .int, 3, 0, 0)
theorem me7_at : sm_me k7_at 2 := ⟨pn7.1, sm_q2 26 rfl rfl, pn7.2.1, pn7.2.2.1, pn7.2.2.2, pd__28II_29I⟩
theorem ms7_at : Cond.instanceMethod k7_at.1 ∈ sm_tb ∧ Cond.selects k7_at.1.cls k7_at.1 k7_at.1 ∈ sm_tb := ⟨sm_q2 24 rfl rfl, sm_q2 25 rfl rfl⟩
def k7_tear : sm_K := (⟨"TwoFliers", "tear", "(I)I"⟩, prog_1_method_5_code, 2, some .int, 2, 0, 0)
theorem me7_tear : sm_me k7_tear 1 := ⟨pn7.1, sm_q2 30 rfl rfl, pn7.2.1, pn7.2.2.1, pn7.2.2.2, pd__28I_29I⟩
theorem ms7_tear : Cond.instanceMethod k7_tear.1 ∈ sm_tb ∧ Cond.selects k7_tear.1.cls k7_tear.1 k7_tear.1 ∈ sm_tb := ⟨sm_q2 28 rfl rfl, sm_q2 29 rfl rfl⟩
def k8_tear : sm_K := (⟨"TwoFliersModel", "tear", "(I)I"⟩, prog_10_method_16_code, 3, some .int, 4, 0, 0)
theorem me8_tear : sm_me k8_tear 1 := ⟨pn8.1, sm_q4 233 rfl rfl, pn8.2.1, pn8.2.2.1, pn8.2.2.2, pd__28I_29I⟩
theorem ms8_tear : Cond.instanceMethod k8_tear.1 ∈ sm_tb ∧ Cond.selects k8_tear.1.cls k8_tear.1 k8_tear.1 ∈ sm_tb := ⟨sm_q4 231 rfl rfl, sm_q4 232 rfl rfl⟩
def k7_holds : sm_K := (⟨"TwoFliers", "holds", "(III)Z"⟩, prog_1_method_54_code, 3, some .boolean, 1, 0, 0)
theorem me7_holds : sm_me k7_holds 3 := ⟨pn7.1, sm_q2 37 rfl rfl, pn7.2.1, pn7.2.2.1, pn7.2.2.2, pd__28III_29Z⟩
theorem ms7_holds : Cond.static k7_holds.1 ∈ sm_tb := sm_q2 36 rfl rfl
def k7_copy : sm_K := (⟨"TwoFliers", "copy", "(IIIII)I"⟩, prog_1_method_6_code, 6, some .int, 2, 0, 0)
theorem me7_copy : sm_me k7_copy 5 := ⟨pn7.1, sm_q2 34 rfl rfl, pn7.2.1, pn7.2.2.1, pn7.2.2.2, pd__28IIIII_29I⟩
theorem ms7_copy : Cond.instanceMethod k7_copy.1 ∈ sm_tb ∧ Cond.selects k7_copy.1.cls k7_copy.1 k7_copy.1 ∈ sm_tb := ⟨sm_q2 32 rfl rfl, sm_q2 33 rfl rfl⟩
def k8_copy : sm_K := (⟨"TwoFliersModel", "copy", "(IIIII)I"⟩, prog_10_method_17_code, 7, some .int, 3, 0, 0)
theorem me8_copy : sm_me k8_copy 5 := ⟨pn8.1, sm_q4 237 rfl rfl, pn8.2.1, pn8.2.2.1, pn8.2.2.2, pd__28IIIII_29I⟩
theorem ms8_copy : Cond.instanceMethod k8_copy.1 ∈ sm_tb ∧ Cond.selects k8_copy.1.cls k8_copy.1 k8_copy.1 ∈ sm_tb := ⟨sm_q4 235 rfl rfl, sm_q4 236 rfl rfl⟩
def k7_mean : sm_K := (⟨"TwoFliers", "mean", "(I)I"⟩, prog_1_method_7_code, 6, some .int, 2, 0, 0)
theorem me7_mean : sm_me k7_mean 1 := ⟨pn7.1, sm_q2 44 rfl rfl, pn7.2.1, pn7.2.2.1, pn7.2.2.2, pd__28I_29I⟩
theorem ms7_mean : Cond.instanceMethod k7_mean.1 ∈ sm_tb ∧ Cond.selects k7_mean.1.cls k7_mean.1 k7_mean.1 ∈ sm_tb := ⟨sm_q2 42 rfl rfl, sm_q2 43 rfl rfl⟩
def k8_mean : sm_K := (⟨"TwoFliersModel", "mean", "(I)I"⟩, prog_10_method_18_code, 6, some .int, 4, 0, 0)
theorem me8_mean : sm_me k8_mean 1 := ⟨pn8.1, sm_q5 1 rfl rfl, pn8.2.1, pn8.2.2.1, pn8.2.2.2, pd__28I_29I⟩
theorem ms8_mean : Cond.instanceMethod k8_mean.1 ∈ sm_tb ∧ Cond.selects k8_mean.1.cls k8_mean.1 k8_mean.1 ∈ sm_tb := ⟨sm_q4 239 rfl rfl, sm_q5 0 rfl rfl⟩
def k7_isText : sm_K := (⟨"TwoFliers", "isText", "(I)Z"⟩, prog_1_method_51_code, 1, some .boolean, 1, 0, 0)
theorem me7_isText : sm_me k7_isText 1 := ⟨pn7.1, sm_q2 51 rfl rfl, pn7.2.1, pn7.2.2.1, pn7.2.2.2, pd__28I_29Z⟩
theorem ms7_isText : Cond.static k7_isText.1 ∈ sm_tb := sm_q2 50 rfl rfl
def kA_fillB : sm_K := (⟨"java/util/Arrays", "fill", "([BB)V"⟩, prog_14_method_109_code, 4, none, 1, 0, 0)
theorem meA_fillB : sm_me kA_fillB 2 := ⟨pnA.1, sm_q2 54 rfl rfl, pnA.2.1, pnA.2.2.1, pnA.2.2.2, pd__28_5bBB_29V⟩
theorem msA_fillB : Cond.static kA_fillB.1 ∈ sm_tb := sm_q2 53 rfl rfl
def k7_text : sm_K := (⟨"TwoFliers", "text", "(II)I"⟩, prog_1_method_8_code, 3, some .int, 2, 0, 0)
theorem me7_text : sm_me k7_text 2 := ⟨pn7.1, sm_q2 48 rfl rfl, pn7.2.1, pn7.2.2.1, pn7.2.2.2, pd__28II_29I⟩
theorem ms7_text : Cond.instanceMethod k7_text.1 ∈ sm_tb ∧ Cond.selects k7_text.1.cls k7_text.1 k7_text.1 ∈ sm_tb := ⟨sm_q2 46 rfl rfl, sm_q2 47 rfl rfl⟩
def k8_isText : sm_K := (⟨"TwoFliersModel", "isText", "(I)Z"⟩, prog_10_method_9_code, 1, some .boolean, 2, 0, 0)
theorem me8_isText : sm_me k8_isText 1 := ⟨pn8.1, sm_q5 8 rfl rfl, pn8.2.1, pn8.2.2.1, pn8.2.2.2, pd__28I_29Z⟩
theorem ms8_isText : Cond.static k8_isText.1 ∈ sm_tb := sm_q5 7 rfl rfl
def k8_text : sm_K := (⟨"TwoFliersModel", "text", "(II)I"⟩, prog_10_method_19_code, 4, some .int, 3, 0, 0)
theorem me8_text : sm_me k8_text 2 := ⟨pn8.1, sm_q5 5 rfl rfl, pn8.2.1, pn8.2.2.1, pn8.2.2.2, pd__28II_29I⟩
theorem ms8_text : Cond.instanceMethod k8_text.1 ∈ sm_tb ∧ Cond.selects k8_text.1.cls k8_text.1 k8_text.1 ∈ sm_tb := ⟨sm_q5 3 rfl rfl, sm_q5 4 rfl rfl⟩
def k7_put : sm_K := (⟨"TwoFliers", "put", "(III)I"⟩, prog_1_method_9_code, 5, some .int, 2, 0, 0)
theorem me7_put : sm_me k7_put 3 := ⟨pn7.1, sm_q2 58 rfl rfl, pn7.2.1, pn7.2.2.1, pn7.2.2.2, pd__28III_29I⟩
theorem ms7_put : Cond.instanceMethod k7_put.1 ∈ sm_tb ∧ Cond.selects k7_put.1.cls k7_put.1 k7_put.1 ∈ sm_tb := ⟨sm_q2 56 rfl rfl, sm_q2 57 rfl rfl⟩
def k8_askedText : sm_K := (⟨"TwoFliersModel", "askedText", "(I)I"⟩, prog_10_method_11_code, 2, some .int, 3, 0, 0)
theorem me8_askedText : sm_me k8_askedText 1 := ⟨pn8.1, sm_q5 16 rfl rfl, pn8.2.1, pn8.2.2.1, pn8.2.2.2, pd__28I_29I⟩
theorem ms8_askedText : Cond.instanceMethod k8_askedText.1 ∈ sm_tb ∧ Cond.selects k8_askedText.1.cls k8_askedText.1 k8_askedText.1 ∈ sm_tb := ⟨sm_q5 15 rfl rfl, sm_at 33 (by decide +kernel) rfl⟩
def k8_put : sm_K := (⟨"TwoFliersModel", "put", "(III)I"⟩, prog_10_method_20_code, 6, some .int, 4, 0, 0)
theorem me8_put : sm_me k8_put 3 := ⟨pn8.1, sm_q5 12 rfl rfl, pn8.2.1, pn8.2.2.1, pn8.2.2.2, pd__28III_29I⟩
theorem ms8_put : Cond.instanceMethod k8_put.1 ∈ sm_tb ∧ Cond.selects k8_put.1.cls k8_put.1 k8_put.1 ∈ sm_tb := ⟨sm_q5 10 rfl rfl, sm_q5 11 rfl rfl⟩
def k1_isCell : sm_K := (⟨"TwoFliers$Chart", "isCell", "(I)Z"⟩, prog_3_method_2_code, 1, some .boolean, 1, 0, 0)
theorem me1_isCell : sm_me k1_isCell 1 := ⟨pn1.1, sm_q2 65 rfl rfl, pn1.2.1, pn1.2.2.1, pn1.2.2.2, pd__28I_29Z⟩
theorem ms1_isCell : Cond.static k1_isCell.1 ∈ sm_tb := sm_q2 64 rfl rfl
def k1_isSide : sm_K := (⟨"TwoFliers$Chart", "isSide", "(I)Z"⟩, prog_3_method_3_code, 1, some .boolean, 1, 0, 0)
theorem me1_isSide : sm_me k1_isSide 1 := ⟨pn1.1, sm_q2 68 rfl rfl, pn1.2.1, pn1.2.2.1, pn1.2.2.2, pd__28I_29Z⟩
theorem ms1_isSide : Cond.static k1_isSide.1 ∈ sm_tb := sm_q2 67 rfl rfl
def k3_begin : sm_K := (⟨"TwoFliers$Plane", "begin", "(I[II)V"⟩, prog_5_method_2_code, 4, none, 2, 0, 0)
theorem me3_begin : sm_me k3_begin 3 := ⟨pn3.1, sm_q2 72 rfl rfl, pn3.2.1, pn3.2.2.1, pn3.2.2.2, pd__28I_5bII_29V⟩
theorem ms3_begin : Cond.instanceMethod k3_begin.1 ∈ sm_tb ∧ Cond.selects k3_begin.1.cls k3_begin.1 k3_begin.1 ∈ sm_tb := ⟨sm_q2 70 rfl rfl, sm_q2 71 rfl rfl⟩
def k7_flight : sm_K := (⟨"TwoFliers", "flight", "(II)I"⟩, prog_1_method_10_code, 4, some .int, 3, 0, 0)
theorem me7_flight : sm_me k7_flight 2 := ⟨pn7.1, sm_q2 62 rfl rfl, pn7.2.1, pn7.2.2.1, pn7.2.2.2, pd__28II_29I⟩
theorem ms7_flight : Cond.instanceMethod k7_flight.1 ∈ sm_tb ∧ Cond.selects k7_flight.1.cls k7_flight.1 k7_flight.1 ∈ sm_tb := ⟨sm_q2 60 rfl rfl, sm_q2 61 rfl rfl⟩
def k8_isCell : sm_K := (⟨"TwoFliersModel", "isCell", "(I)Z"⟩, prog_10_method_21_code, 1, some .boolean, 2, 0, 0)
theorem me8_isCell : sm_me k8_isCell 1 := ⟨pn8.1, sm_q5 23 rfl rfl, pn8.2.1, pn8.2.2.1, pn8.2.2.2, pd__28I_29Z⟩
theorem ms8_isCell : Cond.static k8_isCell.1 ∈ sm_tb := sm_q5 22 rfl rfl
def k8_isSide : sm_K := (⟨"TwoFliersModel", "isSide", "(I)Z"⟩, prog_10_method_22_code, 1, some .boolean, 2, 0, 0)
theorem me8_isSide : sm_me k8_isSide 1 := ⟨pn8.1, sm_q5 39 rfl rfl, pn8.2.1, pn8.2.2.1, pn8.2.2.2, pd__28I_29Z⟩
theorem ms8_isSide : Cond.static k8_isSide.1 ∈ sm_tb := sm_q5 38 rfl rfl
def k8_flight : sm_K := (⟨"TwoFliersModel", "flight", "(II)I"⟩, prog_10_method_31_code, 6, some .int, 4, 0, 0)
theorem me8_flight : sm_me k8_flight 2 := ⟨pn8.1, sm_q5 36 rfl rfl, pn8.2.1, pn8.2.2.1, pn8.2.2.2, pd__28II_29I⟩
theorem ms8_flight : Cond.instanceMethod k8_flight.1 ∈ sm_tb ∧ Cond.selects k8_flight.1.cls k8_flight.1 k8_flight.1 ∈ sm_tb := ⟨sm_q5 34 rfl rfl, sm_q5 35 rfl rfl⟩
def k7_isWithin : sm_K := (⟨"TwoFliers", "isWithin", "(II)Z"⟩, prog_1_method_49_code, 2, some .boolean, 1, 0, 0)
theorem me7_isWithin : sm_me k7_isWithin 2 := ⟨pn7.1, sm_q2 81 rfl rfl, pn7.2.1, pn7.2.2.1, pn7.2.2.2, pd__28II_29Z⟩
theorem ms7_isWithin : Cond.static k7_isWithin.1 ∈ sm_tb := sm_q2 80 rfl rfl
def k7_ends : sm_K := (⟨"TwoFliers", "ends", "(I)I"⟩, prog_1_method_11_code, 4, some .int, 2, 0, 0)
theorem me7_ends : sm_me k7_ends 1 := ⟨pn7.1, sm_q2 78 rfl rfl, pn7.2.1, pn7.2.2.1, pn7.2.2.2, pd__28I_29I⟩
theorem ms7_ends : Cond.instanceMethod k7_ends.1 ∈ sm_tb ∧ Cond.selects k7_ends.1.cls k7_ends.1 k7_ends.1 ∈ sm_tb := ⟨sm_q2 76 rfl rfl, sm_q2 77 rfl rfl⟩
def k8_hours : sm_K := (⟨"TwoFliersModel", "hours", "()I"⟩, prog_10_method_28_code, 1, some .int, 1, 0, 0)
theorem me8_hours : sm_me k8_hours 0 := ⟨pn8.1, sm_q5 47 rfl rfl, pn8.2.1, pn8.2.2.1, pn8.2.2.2, pd__28_29I⟩
theorem ms8_hours : Cond.instanceMethod k8_hours.1 ∈ sm_tb ∧ Cond.selects k8_hours.1.cls k8_hours.1 k8_hours.1 ∈ sm_tb := ⟨sm_q5 46 rfl rfl, sm_at 34 (by decide +kernel) rfl⟩
def k8_ends : sm_K := (⟨"TwoFliersModel", "ends", "(I)I"⟩, prog_10_method_32_code, 5, some .int, 4, 0, 0)
theorem me8_ends : sm_me k8_ends 1 := ⟨pn8.1, sm_q5 43 rfl rfl, pn8.2.1, pn8.2.2.1, pn8.2.2.2, pd__28I_29I⟩
theorem ms8_ends : Cond.instanceMethod k8_ends.1 ∈ sm_tb ∧ Cond.selects k8_ends.1.cls k8_ends.1 k8_ends.1 ∈ sm_tb := ⟨sm_q5 41 rfl rfl, sm_q5 42 rfl rfl⟩
def k7_course : sm_K := (⟨"TwoFliers", "course", "(II)I"⟩, prog_1_method_12_code, 4, some .int, 2, 0, 0)
theorem me7_course : sm_me k7_course 2 := ⟨pn7.1, sm_q2 85 rfl rfl, pn7.2.1, pn7.2.2.1, pn7.2.2.2, pd__28II_29I⟩
theorem ms7_course : Cond.instanceMethod k7_course.1 ∈ sm_tb ∧ Cond.selects k7_course.1.cls k7_course.1 k7_course.1 ∈ sm_tb := ⟨sm_q2 83 rfl rfl, sm_q2 84 rfl rfl⟩
def k8_courseOf : sm_K := (⟨"TwoFliersModel", "courseOf", "(I)I"⟩, prog_10_method_29_code, 2, some .int, 1, 0, 0)
theorem me8_courseOf : sm_me k8_courseOf 1 := ⟨pn8.1, sm_q5 55 rfl rfl, pn8.2.1, pn8.2.2.1, pn8.2.2.2, pd__28I_29I⟩
theorem ms8_courseOf : Cond.instanceMethod k8_courseOf.1 ∈ sm_tb ∧ Cond.selects k8_courseOf.1.cls k8_courseOf.1 k8_courseOf.1 ∈ sm_tb := ⟨sm_q5 54 rfl rfl, sm_at 35 (by decide +kernel) rfl⟩
def k8_course : sm_K := (⟨"TwoFliersModel", "course", "(II)I"⟩, prog_10_method_33_code, 4, some .int, 3, 0, 0)
theorem me8_course : sm_me k8_course 2 := ⟨pn8.1, sm_q5 51 rfl rfl, pn8.2.1, pn8.2.2.1, pn8.2.2.2, pd__28II_29I⟩
theorem ms8_course : Cond.instanceMethod k8_course.1 ∈ sm_tb ∧ Cond.selects k8_course.1.cls k8_course.1 k8_course.1 ∈ sm_tb := ⟨sm_q5 49 rfl rfl, sm_q5 50 rfl rfl⟩
def k3_number : sm_K := (⟨"TwoFliers$Plane", "number", "(I)I"⟩, prog_5_method_3_code, 3, some .int, 1, 0, 0)
theorem me3_number : sm_me k3_number 1 := ⟨pn3.1, sm_q2 93 rfl rfl, pn3.2.1, pn3.2.2.1, pn3.2.2.2, pd__28I_29I⟩
theorem ms3_number : Cond.instanceMethod k3_number.1 ∈ sm_tb ∧ Cond.selects k3_number.1.cls k3_number.1 k3_number.1 ∈ sm_tb := ⟨sm_q2 91 rfl rfl, sm_q2 92 rfl rfl⟩
def k7_plan : sm_K := (⟨"TwoFliers", "plan", "(I)I"⟩, prog_1_method_13_code, 2, some .int, 2, 0, 0)
theorem me7_plan : sm_me k7_plan 1 := ⟨pn7.1, sm_q2 89 rfl rfl, pn7.2.1, pn7.2.2.1, pn7.2.2.2, pd__28I_29I⟩
theorem ms7_plan : Cond.instanceMethod k7_plan.1 ∈ sm_tb ∧ Cond.selects k7_plan.1.cls k7_plan.1 k7_plan.1 ∈ sm_tb := ⟨sm_q2 87 rfl rfl, sm_q2 88 rfl rfl⟩
def k8_plan : sm_K := (⟨"TwoFliersModel", "plan", "(I)I"⟩, prog_10_method_34_code, 2, some .int, 2, 0, 0)
theorem me8_plan : sm_me k8_plan 1 := ⟨pn8.1, sm_q5 59 rfl rfl, pn8.2.1, pn8.2.2.1, pn8.2.2.2, pd__28I_29I⟩
theorem ms8_plan : Cond.instanceMethod k8_plan.1 ∈ sm_tb ∧ Cond.selects k8_plan.1.cls k8_plan.1 k8_plan.1 ∈ sm_tb := ⟨sm_q5 57 rfl rfl, sm_q5 58 rfl rfl⟩
def k4_skipBlanks : sm_K := (⟨"TwoFliers$Reader", "skipBlanks", "()V"⟩, prog_6_method_3_code, 1, none, 1, 0, 0)
theorem me4_skipBlanks : sm_me k4_skipBlanks 0 := ⟨pn4.1, sm_q2 106 rfl rfl, pn4.2.1, pn4.2.2.1, pn4.2.2.2, pd__28_29V⟩
theorem ms4_skipBlanks : Cond.instanceMethod k4_skipBlanks.1 ∈ sm_tb ∧ Cond.selects k4_skipBlanks.1.cls k4_skipBlanks.1 k4_skipBlanks.1 ∈ sm_tb := ⟨sm_q2 105 rfl rfl, sm_at 3 (by decide +kernel) rfl⟩
def k4_take : sm_K := (⟨"TwoFliers$Reader", "take", "(I)V"⟩, prog_6_method_8_code, 2, none, 1, 0, 0)
theorem me4_take : sm_me k4_take 1 := ⟨pn4.1, sm_q2 114 rfl rfl, pn4.2.1, pn4.2.2.1, pn4.2.2.2, pd__28I_29V⟩
theorem ms4_take : Cond.instanceMethod k4_take.1 ∈ sm_tb ∧ Cond.selects k4_take.1.cls k4_take.1 k4_take.1 ∈ sm_tb := ⟨sm_q2 113 rfl rfl, sm_at 5 (by decide +kernel) rfl⟩
def k4_isFigure : sm_K := (⟨"TwoFliers$Reader", "isFigure", "(I)Z"⟩, prog_6_method_11_code, 2, some .boolean, 1, 0, 0)
theorem me4_isFigure : sm_me k4_isFigure 1 := ⟨pn4.1, sm_q2 126 rfl rfl, pn4.2.1, pn4.2.2.1, pn4.2.2.2, pd__28I_29Z⟩
theorem ms4_isFigure : Cond.instanceMethod k4_isFigure.1 ∈ sm_tb ∧ Cond.selects k4_isFigure.1.cls k4_isFigure.1 k4_isFigure.1 ∈ sm_tb := ⟨sm_q2 125 rfl rfl, sm_at 8 (by decide +kernel) rfl⟩
def k4_takeFigure : sm_K := (⟨"TwoFliers$Reader", "takeFigure", "(I)I"⟩, prog_6_method_9_code, 2, some .int, 2, 0, 0)
theorem me4_takeFigure : sm_me k4_takeFigure 1 := ⟨pn4.1, sm_q2 122 rfl rfl, pn4.2.1, pn4.2.2.1, pn4.2.2.2, pd__28I_29I⟩
theorem ms4_takeFigure : Cond.instanceMethod k4_takeFigure.1 ∈ sm_tb ∧ Cond.selects k4_takeFigure.1.cls k4_takeFigure.1 k4_takeFigure.1 ∈ sm_tb := ⟨sm_q2 121 rfl rfl, sm_at 7 (by decide +kernel) rfl⟩
def k4_takeNumber : sm_K := (⟨"TwoFliers$Reader", "takeNumber", "(I)I"⟩, prog_6_method_10_code, 4, some .int, 3, 0, 0)
theorem me4_takeNumber : sm_me k4_takeNumber 1 := ⟨pn4.1, sm_q2 118 rfl rfl, pn4.2.1, pn4.2.2.1, pn4.2.2.2, pd__28I_29I⟩
theorem ms4_takeNumber : Cond.instanceMethod k4_takeNumber.1 ∈ sm_tb ∧ Cond.selects k4_takeNumber.1.cls k4_takeNumber.1 k4_takeNumber.1 ∈ sm_tb := ⟨sm_q2 117 rfl rfl, sm_at 6 (by decide +kernel) rfl⟩
def k4_takeCell : sm_K := (⟨"TwoFliers$Reader", "takeCell", "()I"⟩, prog_6_method_7_code, 2, some .int, 4, 0, 0)
theorem me4_takeCell : sm_me k4_takeCell 0 := ⟨pn4.1, sm_q2 134 rfl rfl, pn4.2.1, pn4.2.2.1, pn4.2.2.2, pd__28_29I⟩
theorem ms4_takeCell : Cond.instanceMethod k4_takeCell.1 ∈ sm_tb ∧ Cond.selects k4_takeCell.1.cls k4_takeCell.1 k4_takeCell.1 ∈ sm_tb := ⟨sm_q2 133 rfl rfl, sm_at 10 (by decide +kernel) rfl⟩
def k1_apart : sm_K := (⟨"TwoFliers$Chart", "apart", "(II)I"⟩, prog_3_method_4_code, 4, some .int, 1, 0, 0)
theorem me1_apart : sm_me k1_apart 2 := ⟨pn1.1, sm_q2 138 rfl rfl, pn1.2.1, pn1.2.2.1, pn1.2.2.2, pd__28II_29I⟩
theorem ms1_apart : Cond.static k1_apart.1 ∈ sm_tb := sm_q2 137 rfl rfl
def k4_readRound : sm_K := (⟨"TwoFliers$Reader", "readRound", "()V"⟩, prog_6_method_5_code, 5, none, 5, 0, 0)
theorem me4_readRound : sm_me k4_readRound 0 := ⟨pn4.1, sm_q2 130 rfl rfl, pn4.2.1, pn4.2.2.1, pn4.2.2.2, pd__28_29V⟩
theorem ms4_readRound : Cond.instanceMethod k4_readRound.1 ∈ sm_tb ∧ Cond.selects k4_readRound.1.cls k4_readRound.1 k4_readRound.1 ∈ sm_tb := ⟨sm_q2 129 rfl rfl, sm_at 9 (by decide +kernel) rfl⟩
def k1_beside : sm_K := (⟨"TwoFliers$Chart", "beside", "(II)I"⟩, prog_3_method_7_code, 4, some .int, 1, 0, 0)
theorem me1_beside : sm_me k1_beside 2 := ⟨pn1.1, sm_q2 151 rfl rfl, pn1.2.1, pn1.2.2.1, pn1.2.2.2, pd__28II_29I⟩
theorem ms1_beside : Cond.static k1_beside.1 ∈ sm_tb := sm_q2 150 rfl rfl
def k4_readLine : sm_K := (⟨"TwoFliers$Reader", "readLine", "()V"⟩, prog_6_method_6_code, 5, none, 5, 0, 0)
theorem me4_readLine : sm_me k4_readLine 0 := ⟨pn4.1, sm_q2 148 rfl rfl, pn4.2.1, pn4.2.2.1, pn4.2.2.2, pd__28_29V⟩
theorem ms4_readLine : Cond.instanceMethod k4_readLine.1 ∈ sm_tb ∧ Cond.selects k4_readLine.1.cls k4_readLine.1 k4_readLine.1 ∈ sm_tb := ⟨sm_q2 147 rfl rfl, sm_at 11 (by decide +kernel) rfl⟩
def k4_readItem : sm_K := (⟨"TwoFliers$Reader", "readItem", "()V"⟩, prog_6_method_4_code, 2, none, 6, 0, 0)
theorem me4_readItem : sm_me k4_readItem 0 := ⟨pn4.1, sm_q2 110 rfl rfl, pn4.2.1, pn4.2.2.1, pn4.2.2.2, pd__28_29V⟩
theorem ms4_readItem : Cond.instanceMethod k4_readItem.1 ∈ sm_tb ∧ Cond.selects k4_readItem.1.cls k4_readItem.1 k4_readItem.1 ∈ sm_tb := ⟨sm_q2 109 rfl rfl, sm_at 4 (by decide +kernel) rfl⟩
def k4_read : sm_K := (⟨"TwoFliers$Reader", "read", "([BI)I"⟩, prog_6_method_2_code, 4, some .int, 7, 0, 0)
theorem me4_read : sm_me k4_read 2 := ⟨pn4.1, sm_q2 101 rfl rfl, pn4.2.1, pn4.2.2.1, pn4.2.2.2, pd__28_5bBI_29I⟩
theorem ms4_read : Cond.instanceMethod k4_read.1 ∈ sm_tb ∧ Cond.selects k4_read.1.cls k4_read.1 k4_read.1 ∈ sm_tb := ⟨sm_q2 99 rfl rfl, sm_q2 100 rfl rfl⟩
def k7_fault : sm_K := (⟨"TwoFliers", "fault", "(I)I"⟩, prog_1_method_14_code, 2, some .int, 8, 0, 0)
theorem me7_fault : sm_me k7_fault 1 := ⟨pn7.1, sm_q2 97 rfl rfl, pn7.2.1, pn7.2.2.1, pn7.2.2.2, pd__28I_29I⟩
theorem ms7_fault : Cond.instanceMethod k7_fault.1 ∈ sm_tb ∧ Cond.selects k7_fault.1.cls k7_fault.1 k7_fault.1 ∈ sm_tb := ⟨sm_q2 95 rfl rfl, sm_q2 96 rfl rfl⟩
def k8_here : sm_K := (⟨"TwoFliersModel", "here", "(I)I"⟩, prog_10_method_35_code, 2, some .int, 1, 0, 0)
theorem me8_here : sm_me k8_here 1 := ⟨pn8.1, sm_q5 71 rfl rfl, pn8.2.1, pn8.2.2.1, pn8.2.2.2, pd__28I_29I⟩
theorem ms8_here : Cond.instanceMethod k8_here.1 ∈ sm_tb ∧ Cond.selects k8_here.1.cls k8_here.1 k8_here.1 ∈ sm_tb := ⟨sm_q5 70 rfl rfl, sm_at 37 (by decide +kernel) rfl⟩
def k8_reads : sm_K := (⟨"TwoFliersModel", "reads", "(II)Z"⟩, prog_10_method_36_code, 4, some .boolean, 2, 0, 0)
theorem me8_reads : sm_me k8_reads 2 := ⟨pn8.1, sm_q5 79 rfl rfl, pn8.2.1, pn8.2.2.1, pn8.2.2.2, pd__28II_29Z⟩
theorem ms8_reads : Cond.instanceMethod k8_reads.1 ∈ sm_tb ∧ Cond.selects k8_reads.1.cls k8_reads.1 k8_reads.1 ∈ sm_tb := ⟨sm_q5 78 rfl rfl, sm_at 39 (by decide +kernel) rfl⟩
def k8_readsNumber : sm_K := (⟨"TwoFliersModel", "readsNumber", "(III)Z"⟩, prog_10_method_37_code, 5, some .boolean, 2, 0, 0)
theorem me8_readsNumber : sm_me k8_readsNumber 3 := ⟨pn8.1, sm_q5 83 rfl rfl, pn8.2.1, pn8.2.2.1, pn8.2.2.2, pd__28III_29Z⟩
theorem ms8_readsNumber : Cond.instanceMethod k8_readsNumber.1 ∈ sm_tb ∧ Cond.selects k8_readsNumber.1.cls k8_readsNumber.1 k8_readsNumber.1 ∈ sm_tb := ⟨sm_q5 82 rfl rfl, sm_at 40 (by decide +kernel) rfl⟩
def k8_abs : sm_K := (⟨"TwoFliersModel", "abs", "(I)I"⟩, prog_10_method_7_code, 1, some .int, 1, 0, 0)
theorem me8_abs : sm_me k8_abs 1 := ⟨pn8.1, sm_q5 29 rfl rfl, pn8.2.1, pn8.2.2.1, pn8.2.2.2, pd__28I_29I⟩
theorem ms8_abs : Cond.static k8_abs.1 ∈ sm_tb := sm_q5 28 rfl rfl
def k8_farOf : sm_K := (⟨"TwoFliersModel", "farOf", "(II)I"⟩, prog_10_method_23_code, 4, some .int, 2, 0, 0)
theorem me8_farOf : sm_me k8_farOf 2 := ⟨pn8.1, sm_q5 32 rfl rfl, pn8.2.1, pn8.2.2.1, pn8.2.2.2, pd__28II_29I⟩
theorem ms8_farOf : Cond.static k8_farOf.1 ∈ sm_tb := sm_q5 31 rfl rfl
def k8_nextOf : sm_K := (⟨"TwoFliersModel", "nextOf", "(II)I"⟩, prog_10_method_25_code, 4, some .int, 2, 0, 0)
theorem me8_nextOf : sm_me k8_nextOf 2 := ⟨pn8.1, sm_q5 86 rfl rfl, pn8.2.1, pn8.2.2.1, pn8.2.2.2, pd__28II_29I⟩
theorem ms8_nextOf : Cond.static k8_nextOf.1 ∈ sm_tb := sm_q5 85 rfl rfl
def k8_readsItem : sm_K := (⟨"TwoFliersModel", "readsItem", "(I)Z"⟩, prog_10_method_38_code, 6, some .boolean, 3, 0, 0)
theorem me8_readsItem : sm_me k8_readsItem 1 := ⟨pn8.1, sm_q5 75 rfl rfl, pn8.2.1, pn8.2.2.1, pn8.2.2.2, pd__28I_29Z⟩
theorem ms8_readsItem : Cond.instanceMethod k8_readsItem.1 ∈ sm_tb ∧ Cond.selects k8_readsItem.1.cls k8_readsItem.1 k8_readsItem.1 ∈ sm_tb := ⟨sm_q5 74 rfl rfl, sm_at 38 (by decide +kernel) rfl⟩
def k8_goesOn : sm_K := (⟨"TwoFliersModel", "goesOn", "(I)I"⟩, prog_10_method_39_code, 3, some .int, 4, 0, 0)
theorem me8_goesOn : sm_me k8_goesOn 1 := ⟨pn8.1, sm_q5 67 rfl rfl, pn8.2.1, pn8.2.2.1, pn8.2.2.2, pd__28I_29I⟩
theorem ms8_goesOn : Cond.instanceMethod k8_goesOn.1 ∈ sm_tb ∧ Cond.selects k8_goesOn.1.cls k8_goesOn.1 k8_goesOn.1 ∈ sm_tb := ⟨sm_q5 66 rfl rfl, sm_at 36 (by decide +kernel) rfl⟩
def k8_fault : sm_K := (⟨"TwoFliersModel", "fault", "(I)I"⟩, prog_10_method_40_code, 3, some .int, 5, 0, 0)
theorem me8_fault : sm_me k8_fault 1 := ⟨pn8.1, sm_q5 63 rfl rfl, pn8.2.1, pn8.2.2.1, pn8.2.2.2, pd__28I_29I⟩
theorem ms8_fault : Cond.instanceMethod k8_fault.1 ∈ sm_tb ∧ Cond.selects k8_fault.1.cls k8_fault.1 k8_fault.1 ∈ sm_tb := ⟨sm_q5 61 rfl rfl, sm_q5 62 rfl rfl⟩
def k7_story : sm_K := (⟨"TwoFliers", "story", "(II)I"⟩, prog_1_method_15_code, 3, some .int, 8, 0, 0)
theorem me7_story : sm_me k7_story 2 := ⟨pn7.1, sm_q2 159 rfl rfl, pn7.2.1, pn7.2.2.1, pn7.2.2.2, pd__28II_29I⟩
theorem ms7_story : Cond.instanceMethod k7_story.1 ∈ sm_tb ∧ Cond.selects k7_story.1.cls k7_story.1 k7_story.1 ∈ sm_tb := ⟨sm_q2 157 rfl rfl, sm_q2 158 rfl rfl⟩
def k8_story : sm_K := (⟨"TwoFliersModel", "story", "(II)I"⟩, prog_10_method_41_code, 5, some .int, 5, 0, 0)
theorem me8_story : sm_me k8_story 2 := ⟨pn8.1, sm_q5 90 rfl rfl, pn8.2.1, pn8.2.2.1, pn8.2.2.2, pd__28II_29I⟩
theorem ms8_story : Cond.instanceMethod k8_story.1 ∈ sm_tb ∧ Cond.selects k8_story.1.cls k8_story.1 k8_story.1 ∈ sm_tb := ⟨sm_q5 88 rfl rfl, sm_q5 89 rfl rfl⟩
def k7_isMissing : sm_K := (⟨"TwoFliers", "isMissing", "(I)Z"⟩, prog_1_method_53_code, 2, some .boolean, 1, 0, 0)
theorem me7_isMissing : sm_me k7_isMissing 1 := ⟨pn7.1, sm_q2 167 rfl rfl, pn7.2.1, pn7.2.2.1, pn7.2.2.2, pd__28I_29Z⟩
theorem ms7_isMissing : Cond.instanceMethod k7_isMissing.1 ∈ sm_tb ∧ Cond.selects k7_isMissing.1.cls k7_isMissing.1 k7_isMissing.1 ∈ sm_tb := ⟨sm_q2 166 rfl rfl, sm_at 12 (by decide +kernel) rfl⟩
def k7_lies : sm_K := (⟨"TwoFliers", "lies", "(II)I"⟩, prog_1_method_16_code, 3, some .int, 2, 0, 0)
theorem me7_lies : sm_me k7_lies 2 := ⟨pn7.1, sm_q2 163 rfl rfl, pn7.2.1, pn7.2.2.1, pn7.2.2.2, pd__28II_29I⟩
theorem ms7_lies : Cond.instanceMethod k7_lies.1 ∈ sm_tb ∧ Cond.selects k7_lies.1.cls k7_lies.1 k7_lies.1 ∈ sm_tb := ⟨sm_q2 161 rfl rfl, sm_q2 162 rfl rfl⟩
def k8_lies : sm_K := (⟨"TwoFliersModel", "lies", "(II)I"⟩, prog_10_method_42_code, 3, some .int, 3, 0, 0)
theorem me8_lies : sm_me k8_lies 2 := ⟨pn8.1, sm_q5 94 rfl rfl, pn8.2.1, pn8.2.2.1, pn8.2.2.2, pd__28II_29I⟩
theorem ms8_lies : Cond.instanceMethod k8_lies.1 ∈ sm_tb ∧ Cond.selects k8_lies.1.cls k8_lies.1 k8_lies.1 ∈ sm_tb := ⟨sm_q5 92 rfl rfl, sm_q5 93 rfl rfl⟩
def k1_sideOn : sm_K := (⟨"TwoFliers$Chart", "sideOn", "(II)I"⟩, prog_3_method_5_code, 4, some .int, 1, 0, 0)
theorem me1_sideOn : sm_me k1_sideOn 2 := ⟨pn1.1, sm_q2 174 rfl rfl, pn1.2.1, pn1.2.2.1, pn1.2.2.2, pd__28II_29I⟩
theorem ms1_sideOn : Cond.static k1_sideOn.1 ∈ sm_tb := sm_q2 173 rfl rfl
def k7_far : sm_K := (⟨"TwoFliers", "far", "(II)I"⟩, prog_1_method_17_code, 3, some .int, 2, 0, 0)
theorem me7_far : sm_me k7_far 2 := ⟨pn7.1, sm_q2 171 rfl rfl, pn7.2.1, pn7.2.2.1, pn7.2.2.2, pd__28II_29I⟩
theorem ms7_far : Cond.instanceMethod k7_far.1 ∈ sm_tb ∧ Cond.selects k7_far.1.cls k7_far.1 k7_far.1 ∈ sm_tb := ⟨sm_q2 169 rfl rfl, sm_q2 170 rfl rfl⟩
def k8_sideOf : sm_K := (⟨"TwoFliersModel", "sideOf", "(II)I"⟩, prog_10_method_24_code, 4, some .int, 2, 0, 0)
theorem me8_sideOf : sm_me k8_sideOf 2 := ⟨pn8.1, sm_q5 26 rfl rfl, pn8.2.1, pn8.2.2.1, pn8.2.2.2, pd__28II_29I⟩
theorem ms8_sideOf : Cond.static k8_sideOf.1 ∈ sm_tb := sm_q5 25 rfl rfl
def k8_far : sm_K := (⟨"TwoFliersModel", "far", "(II)I"⟩, prog_10_method_27_code, 3, some .int, 3, 0, 0)
theorem me8_far : sm_me k8_far 2 := ⟨pn8.1, sm_q5 20 rfl rfl, pn8.2.1, pn8.2.2.1, pn8.2.2.2, pd__28II_29I⟩
theorem ms8_far : Cond.instanceMethod k8_far.1 ∈ sm_tb ∧ Cond.selects k8_far.1.cls k8_far.1 k8_far.1 ∈ sm_tb := ⟨sm_q5 18 rfl rfl, sm_q5 19 rfl rfl⟩
def k6_fits : sm_K := (⟨"TwoFliers$Sign", "fits", "(IIII)Z"⟩, prog_8_method_2_code, 4, some .boolean, 2, 0, 0)
theorem me6_fits : sm_me k6_fits 4 := ⟨pn6.1, sm_q2 182 rfl rfl, pn6.2.1, pn6.2.2.1, pn6.2.2.2, pd__28IIII_29Z⟩
theorem ms6_fits : Cond.static k6_fits.1 ∈ sm_tb := sm_q2 181 rfl rfl
def k6_become : sm_K := (⟨"TwoFliers$Sign", "become", "(IIII)V"⟩, prog_8_method_3_code, 7, none, 1, 0, 0)
theorem me6_become : sm_me k6_become 4 := ⟨pn6.1, sm_q2 193 rfl rfl, pn6.2.1, pn6.2.2.1, pn6.2.2.2, pd__28IIII_29V⟩
theorem ms6_become : Cond.instanceMethod k6_become.1 ∈ sm_tb ∧ Cond.selects k6_become.1.cls k6_become.1 k6_become.1 ∈ sm_tb := ⟨sm_q2 191 rfl rfl, sm_q2 192 rfl rfl⟩
def k0_add : sm_K := (⟨"TwoFliers$Book", "add", "(IIII)I"⟩, prog_2_method_3_code, 5, some .int, 2, 0, 0)
theorem me0_add : sm_me k0_add 4 := ⟨pn0.1, sm_q2 189 rfl rfl, pn0.2.1, pn0.2.2.1, pn0.2.2.2, pd__28IIII_29I⟩
theorem ms0_add : Cond.instanceMethod k0_add.1 ∈ sm_tb ∧ Cond.selects k0_add.1.cls k0_add.1 k0_add.1 ∈ sm_tb := ⟨sm_q2 187 rfl rfl, sm_q2 188 rfl rfl⟩
def k7_sign : sm_K := (⟨"TwoFliers", "sign", "(IIII)I"⟩, prog_1_method_18_code, 5, some .int, 3, 0, 0)
theorem me7_sign : sm_me k7_sign 4 := ⟨pn7.1, sm_q2 179 rfl rfl, pn7.2.1, pn7.2.2.1, pn7.2.2.2, pd__28IIII_29I⟩
theorem ms7_sign : Cond.instanceMethod k7_sign.1 ∈ sm_tb ∧ Cond.selects k7_sign.1.cls k7_sign.1 k7_sign.1 ∈ sm_tb := ⟨sm_q2 177 rfl rfl, sm_q2 178 rfl rfl⟩
def k8_isGood : sm_K := (⟨"TwoFliersModel", "isGood", "(IIII)Z"⟩, prog_10_method_46_code, 4, some .boolean, 3, 0, 0)
theorem me8_isGood : sm_me k8_isGood 4 := ⟨pn8.1, sm_q5 101 rfl rfl, pn8.2.1, pn8.2.2.1, pn8.2.2.2, pd__28IIII_29Z⟩
theorem ms8_isGood : Cond.static k8_isGood.1 ∈ sm_tb := sm_q5 100 rfl rfl
def k8_newSign : sm_K := (⟨"TwoFliersModel", "newSign", "(IIII)I"⟩, prog_10_method_47_code, 6, some .int, 1, 0, 0)
theorem me8_newSign : sm_me k8_newSign 4 := ⟨pn8.1, sm_q5 105 rfl rfl, pn8.2.1, pn8.2.2.1, pn8.2.2.2, pd__28IIII_29I⟩
theorem ms8_newSign : Cond.instanceMethod k8_newSign.1 ∈ sm_tb ∧ Cond.selects k8_newSign.1.cls k8_newSign.1 k8_newSign.1 ∈ sm_tb := ⟨sm_q5 104 rfl rfl, sm_at 41 (by decide +kernel) rfl⟩
def k8_sign : sm_K := (⟨"TwoFliersModel", "sign", "(IIII)I"⟩, prog_10_method_48_code, 5, some .int, 4, 0, 0)
theorem me8_sign : sm_me k8_sign 4 := ⟨pn8.1, sm_q5 98 rfl rfl, pn8.2.1, pn8.2.2.1, pn8.2.2.2, pd__28IIII_29I⟩
theorem ms8_sign : Cond.instanceMethod k8_sign.1 ∈ sm_tb ∧ Cond.selects k8_sign.1.cls k8_sign.1 k8_sign.1 ∈ sm_tb := ⟨sm_q5 96 rfl rfl, sm_q5 97 rfl rfl⟩
def k7_signs : sm_K := (⟨"TwoFliers", "signs", "(I)I"⟩, prog_1_method_19_code, 5, some .int, 3, 0, 0)
theorem me7_signs : sm_me k7_signs 1 := ⟨pn7.1, sm_q2 197 rfl rfl, pn7.2.1, pn7.2.2.1, pn7.2.2.2, pd__28I_29I⟩
theorem ms7_signs : Cond.instanceMethod k7_signs.1 ∈ sm_tb ∧ Cond.selects k7_signs.1.cls k7_signs.1 k7_signs.1 ∈ sm_tb := ⟨sm_q2 195 rfl rfl, sm_q2 196 rfl rfl⟩
def k8_signs : sm_K := (⟨"TwoFliersModel", "signs", "(I)I"⟩, prog_10_method_49_code, 5, some .int, 4, 0, 0)
theorem me8_signs : sm_me k8_signs 1 := ⟨pn8.1, sm_q5 109 rfl rfl, pn8.2.1, pn8.2.2.1, pn8.2.2.2, pd__28I_29I⟩
theorem ms8_signs : Cond.instanceMethod k8_signs.1 ∈ sm_tb ∧ Cond.selects k8_signs.1.cls k8_signs.1 k8_signs.1 ∈ sm_tb := ⟨sm_q5 107 rfl rfl, sm_q5 108 rfl rfl⟩
def k0_has : sm_K := (⟨"TwoFliers$Book", "has", "(I)Z"⟩, prog_2_method_2_code, 2, some .boolean, 1, 0, 0)
theorem me0_has : sm_me k0_has 1 := ⟨pn0.1, sm_q2 205 rfl rfl, pn0.2.1, pn0.2.2.1, pn0.2.2.2, pd__28I_29Z⟩
theorem ms0_has : Cond.instanceMethod k0_has.1 ∈ sm_tb ∧ Cond.selects k0_has.1.cls k0_has.1 k0_has.1 ∈ sm_tb := ⟨sm_q2 203 rfl rfl, sm_q2 204 rfl rfl⟩
def k7_undo : sm_K := (⟨"TwoFliers", "undo", "(II)I"⟩, prog_1_method_20_code, 4, some .int, 2, 0, 0)
theorem me7_undo : sm_me k7_undo 2 := ⟨pn7.1, sm_q2 201 rfl rfl, pn7.2.1, pn7.2.2.1, pn7.2.2.2, pd__28II_29I⟩
theorem ms7_undo : Cond.instanceMethod k7_undo.1 ∈ sm_tb ∧ Cond.selects k7_undo.1.cls k7_undo.1 k7_undo.1 ∈ sm_tb := ⟨sm_q2 199 rfl rfl, sm_q2 200 rfl rfl⟩
def k8_isSign : sm_K := (⟨"TwoFliersModel", "isSign", "(I)Z"⟩, prog_10_method_43_code, 2, some .boolean, 2, 0, 0)
theorem me8_isSign : sm_me k8_isSign 1 := ⟨pn8.1, sm_q5 117 rfl rfl, pn8.2.1, pn8.2.2.1, pn8.2.2.2, pd__28I_29Z⟩
theorem ms8_isSign : Cond.instanceMethod k8_isSign.1 ∈ sm_tb ∧ Cond.selects k8_isSign.1.cls k8_isSign.1 k8_isSign.1 ∈ sm_tb := ⟨sm_q5 116 rfl rfl, sm_at 42 (by decide +kernel) rfl⟩
def k8_tell : sm_K := (⟨"TwoFliersModel", "tell", "(II)I"⟩, prog_10_method_44_code, 3, some .int, 1, 0, 0)
theorem me8_tell : sm_me k8_tell 2 := ⟨pn8.1, sm_q5 121 rfl rfl, pn8.2.1, pn8.2.2.1, pn8.2.2.2, pd__28II_29I⟩
theorem ms8_tell : Cond.instanceMethod k8_tell.1 ∈ sm_tb ∧ Cond.selects k8_tell.1.cls k8_tell.1 k8_tell.1 ∈ sm_tb := ⟨sm_q5 120 rfl rfl, sm_at 43 (by decide +kernel) rfl⟩
def k8_undo : sm_K := (⟨"TwoFliersModel", "undo", "(II)I"⟩, prog_10_method_50_code, 4, some .int, 3, 0, 0)
theorem me8_undo : sm_me k8_undo 2 := ⟨pn8.1, sm_q5 113 rfl rfl, pn8.2.1, pn8.2.2.1, pn8.2.2.2, pd__28II_29I⟩
theorem ms8_undo : Cond.instanceMethod k8_undo.1 ∈ sm_tb ∧ Cond.selects k8_undo.1.cls k8_undo.1 k8_undo.1 ∈ sm_tb := ⟨sm_q5 111 rfl rfl, sm_q5 112 rfl rfl⟩
def k6_number : sm_K := (⟨"TwoFliers$Sign", "number", "(I)I"⟩, prog_8_method_4_code, 2, some .int, 1, 0, 0)
theorem me6_number : sm_me k6_number 1 := ⟨pn6.1, sm_q2 213 rfl rfl, pn6.2.1, pn6.2.2.1, pn6.2.2.2, pd__28I_29I⟩
theorem ms6_number : Cond.instanceMethod k6_number.1 ∈ sm_tb ∧ Cond.selects k6_number.1.cls k6_number.1 k6_number.1 ∈ sm_tb := ⟨sm_q2 211 rfl rfl, sm_q2 212 rfl rfl⟩
def k7_told : sm_K := (⟨"TwoFliers", "told", "(II)I"⟩, prog_1_method_21_code, 3, some .int, 2, 0, 0)
theorem me7_told : sm_me k7_told 2 := ⟨pn7.1, sm_q2 209 rfl rfl, pn7.2.1, pn7.2.2.1, pn7.2.2.2, pd__28II_29I⟩
theorem ms7_told : Cond.instanceMethod k7_told.1 ∈ sm_tb ∧ Cond.selects k7_told.1.cls k7_told.1 k7_told.1 ∈ sm_tb := ⟨sm_q2 207 rfl rfl, sm_q2 208 rfl rfl⟩
def k8_told : sm_K := (⟨"TwoFliersModel", "told", "(II)I"⟩, prog_10_method_51_code, 3, some .int, 3, 0, 0)
theorem me8_told : sm_me k8_told 2 := ⟨pn8.1, sm_q5 125 rfl rfl, pn8.2.1, pn8.2.2.1, pn8.2.2.2, pd__28II_29I⟩
theorem ms8_told : Cond.instanceMethod k8_told.1 ∈ sm_tb ∧ Cond.selects k8_told.1.cls k8_told.1 k8_told.1 ∈ sm_tb := ⟨sm_q5 123 rfl rfl, sm_q5 124 rfl rfl⟩
def k6_is : sm_K := (⟨"TwoFliers$Sign", "is", "(I)Z"⟩, prog_8_method_5_code, 2, some .boolean, 1, 0, 0)
theorem me6_is : sm_me k6_is 1 := ⟨pn6.1, sm_q2 221 rfl rfl, pn6.2.1, pn6.2.2.1, pn6.2.2.2, pd__28I_29Z⟩
theorem ms6_is : Cond.instanceMethod k6_is.1 ∈ sm_tb ∧ Cond.selects k6_is.1.cls k6_is.1 k6_is.1 ∈ sm_tb := ⟨sm_q2 219 rfl rfl, sm_q2 220 rfl rfl⟩
def k6_heardWeight : sm_K := (⟨"TwoFliers$Sign", "heardWeight", "(II)I"⟩, prog_8_method_11_code, 2, some .int, 1, 0, 0)
theorem me6_heardWeight : sm_me k6_heardWeight 2 := ⟨pn6.1, sm_q2 231 rfl rfl, pn6.2.1, pn6.2.2.1, pn6.2.2.2, pd__28II_29I⟩
theorem ms6_heardWeight : Cond.static k6_heardWeight.1 ∈ sm_tb := sm_q2 230 rfl rfl
def k6_nearestHeard : sm_K := (⟨"TwoFliers$Sign", "nearestHeard", "(I)I"⟩, prog_8_method_16_code, 2, some .int, 2, 0, 0)
theorem me6_nearestHeard : sm_me k6_nearestHeard 1 := ⟨pn6.1, sm_q2 228 rfl rfl, pn6.2.1, pn6.2.2.1, pn6.2.2.2, pd__28I_29I⟩
theorem ms6_nearestHeard : Cond.static k6_nearestHeard.1 ∈ sm_tb := sm_q2 227 rfl rfl
def k6_isBetween : sm_K := (⟨"TwoFliers$Sign", "isBetween", "(III)Z"⟩, prog_8_method_15_code, 3, some .boolean, 1, 0, 0)
theorem me6_isBetween : sm_me k6_isBetween 3 := ⟨pn6.1, sm_q3 4 rfl rfl, pn6.2.1, pn6.2.2.1, pn6.2.2.2, pd__28III_29Z⟩
theorem ms6_isBetween : Cond.static k6_isBetween.1 ∈ sm_tb := sm_q3 3 rfl rfl
def k6_saw : sm_K := (⟨"TwoFliers$Sign", "saw", "(I)Z"⟩, prog_8_method_14_code, 2, some .boolean, 2, 0, 0)
theorem me6_saw : sm_me k6_saw 1 := ⟨pn6.1, sm_q3 1 rfl rfl, pn6.2.1, pn6.2.2.1, pn6.2.2.2, pd__28I_29Z⟩
theorem ms6_saw : Cond.instanceMethod k6_saw.1 ∈ sm_tb ∧ Cond.selects k6_saw.1.cls k6_saw.1 k6_saw.1 ∈ sm_tb := ⟨sm_q3 0 rfl rfl, sm_at 14 (by decide +kernel) rfl⟩
def k6_cellsSeen : sm_K := (⟨"TwoFliers$Sign", "cellsSeen", "()I"⟩, prog_8_method_19_code, 3, some .int, 3, 0, 0)
theorem me6_cellsSeen : sm_me k6_cellsSeen 0 := ⟨pn6.1, sm_q2 237 rfl rfl, pn6.2.1, pn6.2.2.1, pn6.2.2.2, pd__28_29I⟩
theorem ms6_cellsSeen : Cond.instanceMethod k6_cellsSeen.1 ∈ sm_tb ∧ Cond.selects k6_cellsSeen.1.cls k6_cellsSeen.1 k6_cellsSeen.1 ∈ sm_tb := ⟨sm_q2 236 rfl rfl, sm_at 13 (by decide +kernel) rfl⟩
def k6_fixedWeight : sm_K := (⟨"TwoFliers$Sign", "fixedWeight", "(II)I"⟩, prog_8_method_12_code, 2, some .int, 1, 0, 0)
theorem me6_fixedWeight : sm_me k6_fixedWeight 2 := ⟨pn6.1, sm_q3 19 rfl rfl, pn6.2.1, pn6.2.2.1, pn6.2.2.2, pd__28II_29I⟩
theorem ms6_fixedWeight : Cond.static k6_fixedWeight.1 ∈ sm_tb := sm_q3 18 rfl rfl
def k6_burntWeight : sm_K := (⟨"TwoFliers$Sign", "burntWeight", "(I)I"⟩, prog_8_method_13_code, 1, some .int, 1, 0, 0)
theorem me6_burntWeight : sm_me k6_burntWeight 1 := ⟨pn6.1, sm_q3 22 rfl rfl, pn6.2.1, pn6.2.2.1, pn6.2.2.2, pd__28I_29I⟩
theorem ms6_burntWeight : Cond.static k6_burntWeight.1 ∈ sm_tb := sm_q3 21 rfl rfl
def k6_isFrom : sm_K := (⟨"TwoFliers$Sign", "isFrom", "(I)Z"⟩, prog_8_method_9_code, 2, some .boolean, 2, 0, 0)
theorem me6_isFrom : sm_me k6_isFrom 1 := ⟨pn6.1, sm_q3 26 rfl rfl, pn6.2.1, pn6.2.2.1, pn6.2.2.2, pd__28I_29Z⟩
theorem ms6_isFrom : Cond.instanceMethod k6_isFrom.1 ∈ sm_tb ∧ Cond.selects k6_isFrom.1.cls k6_isFrom.1 k6_isFrom.1 ∈ sm_tb := ⟨sm_q3 24 rfl rfl, sm_q3 25 rfl rfl⟩
def k6_weight : sm_K := (⟨"TwoFliers$Sign", "weight", "(I)I"⟩, prog_8_method_10_code, 2, some .int, 3, 0, 0)
theorem me6_weight : sm_me k6_weight 1 := ⟨pn6.1, sm_q3 15 rfl rfl, pn6.2.1, pn6.2.2.1, pn6.2.2.2, pd__28I_29I⟩
theorem ms6_weight : Cond.instanceMethod k6_weight.1 ∈ sm_tb ∧ Cond.selects k6_weight.1.cls k6_weight.1 k6_weight.1 ∈ sm_tb := ⟨sm_q3 13 rfl rfl, sm_q3 14 rfl rfl⟩
def k6_cellsOfFullWeight : sm_K := (⟨"TwoFliers$Sign", "cellsOfFullWeight", "()I"⟩, prog_8_method_20_code, 3, some .int, 4, 0, 0)
theorem me6_cellsOfFullWeight : sm_me k6_cellsOfFullWeight 0 := ⟨pn6.1, sm_q3 11 rfl rfl, pn6.2.1, pn6.2.2.1, pn6.2.2.2, pd__28_29I⟩
theorem ms6_cellsOfFullWeight : Cond.instanceMethod k6_cellsOfFullWeight.1 ∈ sm_tb ∧ Cond.selects k6_cellsOfFullWeight.1.cls k6_cellsOfFullWeight.1 k6_cellsOfFullWeight.1 ∈ sm_tb := ⟨sm_q3 10 rfl rfl, sm_at 15 (by decide +kernel) rfl⟩
def k6_tells : sm_K := (⟨"TwoFliers$Sign", "tells", "(I)I"⟩, prog_8_method_18_code, 2, some .int, 5, 0, 0)
theorem me6_tells : sm_me k6_tells 1 := ⟨pn6.1, sm_q2 225 rfl rfl, pn6.2.1, pn6.2.2.1, pn6.2.2.2, pd__28I_29I⟩
theorem ms6_tells : Cond.instanceMethod k6_tells.1 ∈ sm_tb ∧ Cond.selects k6_tells.1.cls k6_tells.1 k6_tells.1 ∈ sm_tb := ⟨sm_q2 223 rfl rfl, sm_q2 224 rfl rfl⟩
def k7_mark : sm_K := (⟨"TwoFliers", "mark", "(II)I"⟩, prog_1_method_22_code, 3, some .int, 6, 0, 0)
theorem me7_mark : sm_me k7_mark 2 := ⟨pn7.1, sm_q2 217 rfl rfl, pn7.2.1, pn7.2.2.1, pn7.2.2.2, pd__28II_29I⟩
theorem ms7_mark : Cond.instanceMethod k7_mark.1 ∈ sm_tb ∧ Cond.selects k7_mark.1.cls k7_mark.1 k7_mark.1 ∈ sm_tb := ⟨sm_q2 215 rfl rfl, sm_q2 216 rfl rfl⟩
def k8_heardBy : sm_K := (⟨"TwoFliersModel", "heardBy", "(II)I"⟩, prog_10_method_52_code, 3, some .int, 2, 0, 0)
theorem me8_heardBy : sm_me k8_heardBy 2 := ⟨pn8.1, sm_q5 136 rfl rfl, pn8.2.1, pn8.2.2.1, pn8.2.2.2, pd__28II_29I⟩
theorem ms8_heardBy : Cond.static k8_heardBy.1 ∈ sm_tb := sm_q5 135 rfl rfl
def k8_leastFar : sm_K := (⟨"TwoFliersModel", "leastFar", "(I)I"⟩, prog_10_method_57_code, 2, some .int, 3, 0, 0)
theorem me8_leastFar : sm_me k8_leastFar 1 := ⟨pn8.1, sm_q5 149 rfl rfl, pn8.2.1, pn8.2.2.1, pn8.2.2.2, pd__28I_29I⟩
theorem ms8_leastFar : Cond.static k8_leastFar.1 ∈ sm_tb := sm_q5 148 rfl rfl
def k8_isBetween : sm_K := (⟨"TwoFliersModel", "isBetween", "(III)Z"⟩, prog_10_method_53_code, 3, some .boolean, 2, 0, 0)
theorem me8_isBetween : sm_me k8_isBetween 3 := ⟨pn8.1, sm_q5 142 rfl rfl, pn8.2.1, pn8.2.2.1, pn8.2.2.2, pd__28III_29Z⟩
theorem ms8_isBetween : Cond.static k8_isBetween.1 ∈ sm_tb := sm_q5 141 rfl rfl
def k8_isSeen : sm_K := (⟨"TwoFliersModel", "isSeen", "(III)Z"⟩, prog_10_method_54_code, 3, some .boolean, 3, 0, 0)
theorem me8_isSeen : sm_me k8_isSeen 3 := ⟨pn8.1, sm_q5 139 rfl rfl, pn8.2.1, pn8.2.2.1, pn8.2.2.2, pd__28III_29Z⟩
theorem ms8_isSeen : Cond.static k8_isSeen.1 ∈ sm_tb := sm_q5 138 rfl rfl
def k8_weight : sm_K := (⟨"TwoFliersModel", "weight", "(II)I"⟩, prog_10_method_55_code, 6, some .int, 4, 0, 0)
theorem me8_weight : sm_me k8_weight 2 := ⟨pn8.1, sm_q5 133 rfl rfl, pn8.2.1, pn8.2.2.1, pn8.2.2.2, pd__28II_29I⟩
theorem ms8_weight : Cond.instanceMethod k8_weight.1 ∈ sm_tb ∧ Cond.selects k8_weight.1.cls k8_weight.1 k8_weight.1 ∈ sm_tb := ⟨sm_q5 132 rfl rfl, sm_at 44 (by decide +kernel) rfl⟩
def k8_fullCells : sm_K := (⟨"TwoFliersModel", "fullCells", "(I)I"⟩, prog_10_method_60_code, 4, some .int, 5, 0, 0)
theorem me8_fullCells : sm_me k8_fullCells 1 := ⟨pn8.1, sm_q5 157 rfl rfl, pn8.2.1, pn8.2.2.1, pn8.2.2.2, pd__28I_29I⟩
theorem ms8_fullCells : Cond.instanceMethod k8_fullCells.1 ∈ sm_tb ∧ Cond.selects k8_fullCells.1.cls k8_fullCells.1 k8_fullCells.1 ∈ sm_tb := ⟨sm_q5 156 rfl rfl, sm_at 45 (by decide +kernel) rfl⟩
def k8_mark : sm_K := (⟨"TwoFliersModel", "mark", "(II)I"⟩, prog_10_method_59_code, 4, some .int, 6, 0, 0)
theorem me8_mark : sm_me k8_mark 2 := ⟨pn8.1, sm_q5 153 rfl rfl, pn8.2.1, pn8.2.2.1, pn8.2.2.2, pd__28II_29I⟩
theorem ms8_mark : Cond.instanceMethod k8_mark.1 ∈ sm_tb ∧ Cond.selects k8_mark.1.cls k8_mark.1 k8_mark.1 ∈ sm_tb := ⟨sm_q5 151 rfl rfl, sm_q5 152 rfl rfl⟩
def k7_weighs : sm_K := (⟨"TwoFliers", "weighs", "(II)I"⟩, prog_1_method_23_code, 5, some .int, 4, 0, 0)
theorem me7_weighs : sm_me k7_weighs 2 := ⟨pn7.1, sm_q3 31 rfl rfl, pn7.2.1, pn7.2.2.1, pn7.2.2.2, pd__28II_29I⟩
theorem ms7_weighs : Cond.instanceMethod k7_weighs.1 ∈ sm_tb ∧ Cond.selects k7_weighs.1.cls k7_weighs.1 k7_weighs.1 ∈ sm_tb := ⟨sm_q3 29 rfl rfl, sm_q3 30 rfl rfl⟩
def k8_weighs : sm_K := (⟨"TwoFliersModel", "weighs", "(II)I"⟩, prog_10_method_56_code, 3, some .int, 5, 0, 0)
theorem me8_weighs : sm_me k8_weighs 2 := ⟨pn8.1, sm_q5 129 rfl rfl, pn8.2.1, pn8.2.2.1, pn8.2.2.2, pd__28II_29I⟩
theorem ms8_weighs : Cond.instanceMethod k8_weighs.1 ∈ sm_tb ∧ Cond.selects k8_weighs.1.cls k8_weighs.1 k8_weighs.1 ∈ sm_tb := ⟨sm_q5 127 rfl rfl, sm_q5 128 rfl rfl⟩
def k6_farthestHeard : sm_K := (⟨"TwoFliers$Sign", "farthestHeard", "(I)I"⟩, prog_8_method_17_code, 2, some .int, 2, 0, 0)
theorem me6_farthestHeard : sm_me k6_farthestHeard 1 := ⟨pn6.1, sm_q3 39 rfl rfl, pn6.2.1, pn6.2.2.1, pn6.2.2.2, pd__28I_29I⟩
theorem ms6_farthestHeard : Cond.static k6_farthestHeard.1 ∈ sm_tb := sm_q3 38 rfl rfl
def k7_near : sm_K := (⟨"TwoFliers", "near", "(I)I"⟩, prog_1_method_24_code, 2, some .int, 3, 0, 0)
theorem me7_near : sm_me k7_near 1 := ⟨pn7.1, sm_q3 36 rfl rfl, pn7.2.1, pn7.2.2.1, pn7.2.2.2, pd__28I_29I⟩
theorem ms7_near : Cond.instanceMethod k7_near.1 ∈ sm_tb ∧ Cond.selects k7_near.1.cls k7_near.1 k7_near.1 ∈ sm_tb := ⟨sm_q3 34 rfl rfl, sm_q3 35 rfl rfl⟩
def k8_near : sm_K := (⟨"TwoFliersModel", "near", "(I)I"⟩, prog_10_method_58_code, 3, some .int, 4, 0, 0)
theorem me8_near : sm_me k8_near 1 := ⟨pn8.1, sm_q5 146 rfl rfl, pn8.2.1, pn8.2.2.1, pn8.2.2.2, pd__28I_29I⟩
theorem ms8_near : Cond.instanceMethod k8_near.1 ∈ sm_tb ∧ Cond.selects k8_near.1.cls k8_near.1 k8_near.1 ∈ sm_tb := ⟨sm_q5 144 rfl rfl, sm_q5 145 rfl rfl⟩
def k7_isStory : sm_K := (⟨"TwoFliers", "isStory", "(I)Z"⟩, prog_1_method_52_code, 1, some .boolean, 1, 0, 0)
theorem me7_isStory : sm_me k7_isStory 1 := ⟨pn7.1, sm_q3 47 rfl rfl, pn7.2.1, pn7.2.2.1, pn7.2.2.2, pd__28I_29Z⟩
theorem ms7_isStory : Cond.static k7_isStory.1 ∈ sm_tb := sm_q3 46 rfl rfl
def k6_counts : sm_K := (⟨"TwoFliers$Sign", "counts", "()Z"⟩, prog_8_method_6_code, 1, some .boolean, 1, 0, 0)
theorem me6_counts : sm_me k6_counts 0 := ⟨pn6.1, sm_q3 63 rfl rfl, pn6.2.1, pn6.2.2.1, pn6.2.2.2, pd__28_29Z⟩
theorem ms6_counts : Cond.instanceMethod k6_counts.1 ∈ sm_tb ∧ Cond.selects k6_counts.1.cls k6_counts.1 k6_counts.1 ∈ sm_tb := ⟨sm_q3 61 rfl rfl, sm_q3 62 rfl rfl⟩
def k0_busy : sm_K := (⟨"TwoFliers$Book", "busy", "()I"⟩, prog_2_method_4_code, 3, some .int, 2, 0, 0)
theorem me0_busy : sm_me k0_busy 0 := ⟨pn0.1, sm_q3 59 rfl rfl, pn0.2.1, pn0.2.2.1, pn0.2.2.2, pd__28_29I⟩
theorem ms0_busy : Cond.instanceMethod k0_busy.1 ∈ sm_tb ∧ Cond.selects k0_busy.1.cls k0_busy.1 k0_busy.1 ∈ sm_tb := ⟨sm_q3 57 rfl rfl, sm_q3 58 rfl rfl⟩
def k7_barred : sm_K := (⟨"TwoFliers", "barred", "(II)I"⟩, prog_1_method_58_code, 3, some .int, 3, 0, 0)
theorem me7_barred : sm_me k7_barred 2 := ⟨pn7.1, sm_q3 55 rfl rfl, pn7.2.1, pn7.2.2.1, pn7.2.2.2, pd__28II_29I⟩
theorem ms7_barred : Cond.instanceMethod k7_barred.1 ∈ sm_tb ∧ Cond.selects k7_barred.1.cls k7_barred.1 k7_barred.1 ∈ sm_tb := ⟨sm_q3 54 rfl rfl, sm_at 17 (by decide +kernel) rfl⟩
def kA_fillJ : sm_K := (⟨"java/util/Arrays", "fill", "([JJ)V"⟩, prog_14_method_101_code, 5, none, 1, 0, 0)
theorem meA_fillJ : sm_me kA_fillJ 2 := ⟨pnA.1, sm_q3 74 rfl rfl, pnA.2.1, pnA.2.2.1, pnA.2.2.2, pd__28_5bJJ_29V⟩
theorem msA_fillJ : Cond.static kA_fillJ.1 ∈ sm_tb := sm_q3 73 rfl rfl
def k2_weighsIn : sm_K := (⟨"TwoFliers$Odds", "weighsIn", "(II)Z"⟩, prog_4_method_7_code, 3, some .boolean, 2, 0, 0)
theorem me2_weighsIn : sm_me k2_weighsIn 2 := ⟨pn2.1, sm_q3 82 rfl rfl, pn2.2.1, pn2.2.2.1, pn2.2.2.2, pd__28II_29Z⟩
theorem ms2_weighsIn : Cond.instanceMethod k2_weighsIn.1 ∈ sm_tb ∧ Cond.selects k2_weighsIn.1.cls k2_weighsIn.1 k2_weighsIn.1 ∈ sm_tb := ⟨sm_q3 81 rfl rfl, sm_at 20 (by decide +kernel) rfl⟩
def k6_isByHour : sm_K := (⟨"TwoFliers$Sign", "isByHour", "()Z"⟩, prog_8_method_7_code, 1, some .boolean, 1, 0, 0)
theorem me6_isByHour : sm_me k6_isByHour 0 := ⟨pn6.1, sm_q3 87 rfl rfl, pn6.2.1, pn6.2.2.1, pn6.2.2.2, pd__28_29Z⟩
theorem ms6_isByHour : Cond.instanceMethod k6_isByHour.1 ∈ sm_tb ∧ Cond.selects k6_isByHour.1.cls k6_isByHour.1 k6_isByHour.1 ∈ sm_tb := ⟨sm_q3 85 rfl rfl, sm_q3 86 rfl rfl⟩
def k2_weighByHour : sm_K := (⟨"TwoFliers$Odds", "weighByHour", "(II)V"⟩, prog_4_method_10_code, 6, none, 4, 0, 0)
theorem me2_weighByHour : sm_me k2_weighByHour 2 := ⟨pn2.1, sm_q3 78 rfl rfl, pn2.2.1, pn2.2.2.1, pn2.2.2.2, pd__28II_29V⟩
theorem ms2_weighByHour : Cond.instanceMethod k2_weighByHour.1 ∈ sm_tb ∧ Cond.selects k2_weighByHour.1.cls k2_weighByHour.1 k2_weighByHour.1 ∈ sm_tb := ⟨sm_q3 77 rfl rfl, sm_at 19 (by decide +kernel) rfl⟩
def k2_keepOnly : sm_K := (⟨"TwoFliers$Odds", "keepOnly", "(I)V"⟩, prog_4_method_11_code, 4, none, 2, 0, 0)
theorem me2_keepOnly : sm_me k2_keepOnly 1 := ⟨pn2.1, sm_q3 92 rfl rfl, pn2.2.1, pn2.2.2.1, pn2.2.2.2, pd__28I_29V⟩
theorem ms2_keepOnly : Cond.instanceMethod k2_keepOnly.1 ∈ sm_tb ∧ Cond.selects k2_keepOnly.1.cls k2_keepOnly.1 k2_keepOnly.1 ∈ sm_tb := ⟨sm_q3 91 rfl rfl, sm_at 21 (by decide +kernel) rfl⟩
def k2_weightByEnd : sm_K := (⟨"TwoFliers$Odds", "weightByEnd", "(II)J"⟩, prog_4_method_13_code, 7, some .long, 4, 0, 0)
theorem me2_weightByEnd : sm_me k2_weightByEnd 2 := ⟨pn2.1, sm_q3 100 rfl rfl, pn2.2.1, pn2.2.2.1, pn2.2.2.2, pd__28II_29J⟩
theorem ms2_weightByEnd : Cond.instanceMethod k2_weightByEnd.1 ∈ sm_tb ∧ Cond.selects k2_weightByEnd.1.cls k2_weightByEnd.1 k2_weightByEnd.1 ∈ sm_tb := ⟨sm_q3 99 rfl rfl, sm_at 23 (by decide +kernel) rfl⟩
def k2_weightAtLast : sm_K := (⟨"TwoFliers$Odds", "weightAtLast", "(II)J"⟩, prog_4_method_14_code, 7, some .long, 4, 0, 0)
theorem me2_weightAtLast : sm_me k2_weightAtLast 2 := ⟨pn2.1, sm_q3 105 rfl rfl, pn2.2.1, pn2.2.2.1, pn2.2.2.2, pd__28II_29J⟩
theorem ms2_weightAtLast : Cond.instanceMethod k2_weightAtLast.1 ∈ sm_tb ∧ Cond.selects k2_weightAtLast.1.cls k2_weightAtLast.1 k2_weightAtLast.1 ∈ sm_tb := ⟨sm_q3 104 rfl rfl, sm_at 24 (by decide +kernel) rfl⟩
def k2_land : sm_K := (⟨"TwoFliers$Odds", "land", "(II)J"⟩, prog_4_method_12_code, 10, some .long, 5, 0, 0)
theorem me2_land : sm_me k2_land 2 := ⟨pn2.1, sm_q3 96 rfl rfl, pn2.2.1, pn2.2.2.1, pn2.2.2.2, pd__28II_29J⟩
theorem ms2_land : Cond.instanceMethod k2_land.1 ∈ sm_tb ∧ Cond.selects k2_land.1.cls k2_land.1 k2_land.1 ∈ sm_tb := ⟨sm_q3 95 rfl rfl, sm_at 22 (by decide +kernel) rfl⟩
def k1_gone : sm_K := (⟨"TwoFliers$Chart", "gone", "(II)I"⟩, prog_3_method_8_code, 3, some .int, 2, 0, 0)
theorem me1_gone : sm_me k1_gone 2 := ⟨pn1.1, sm_q3 112 rfl rfl, pn1.2.1, pn1.2.2.1, pn1.2.2.2, pd__28II_29I⟩
theorem ms1_gone : Cond.static k1_gone.1 ∈ sm_tb := sm_q3 111 rfl rfl
def k1_turned : sm_K := (⟨"TwoFliers$Chart", "turned", "(II)I"⟩, prog_3_method_6_code, 2, some .int, 1, 0, 0)
theorem me1_turned : sm_me k1_turned 2 := ⟨pn1.1, sm_q3 117 rfl rfl, pn1.2.1, pn1.2.2.1, pn1.2.2.2, pd__28II_29I⟩
theorem ms1_turned : Cond.static k1_turned.1 ∈ sm_tb := sm_q3 116 rfl rfl
def k2_spread : sm_K := (⟨"TwoFliers$Odds", "spread", "(I)V"⟩, prog_4_method_15_code, 3, none, 3, 0, 0)
theorem me2_spread : sm_me k2_spread 1 := ⟨pn2.1, sm_q3 109 rfl rfl, pn2.2.1, pn2.2.2.1, pn2.2.2.2, pd__28I_29V⟩
theorem ms2_spread : Cond.instanceMethod k2_spread.1 ∈ sm_tb ∧ Cond.selects k2_spread.1.cls k2_spread.1 k2_spread.1 ∈ sm_tb := ⟨sm_q3 108 rfl rfl, sm_at 25 (by decide +kernel) rfl⟩
def k2_weighFlight : sm_K := (⟨"TwoFliers$Odds", "weighFlight", "(III)J"⟩, prog_4_method_9_code, 7, some .long, 6, 0, 0)
theorem me2_weighFlight : sm_me k2_weighFlight 3 := ⟨pn2.1, sm_q3 71 rfl rfl, pn2.2.1, pn2.2.2.1, pn2.2.2.2, pd__28III_29J⟩
theorem ms2_weighFlight : Cond.instanceMethod k2_weighFlight.1 ∈ sm_tb ∧ Cond.selects k2_weighFlight.1.cls k2_weighFlight.1 k2_weighFlight.1 ∈ sm_tb := ⟨sm_q3 70 rfl rfl, sm_at 18 (by decide +kernel) rfl⟩
def k2_weighText : sm_K := (⟨"TwoFliers$Odds", "weighText", "([II)J"⟩, prog_4_method_8_code, 10, some .long, 4, 0, 0)
theorem me2_weighText : sm_me k2_weighText 2 := ⟨pn2.1, sm_q3 121 rfl rfl, pn2.2.1, pn2.2.2.1, pn2.2.2.2, pd__28_5bII_29J⟩
theorem ms2_weighText : Cond.instanceMethod k2_weighText.1 ∈ sm_tb ∧ Cond.selects k2_weighText.1.cls k2_weighText.1 k2_weighText.1 ∈ sm_tb := ⟨sm_q3 120 rfl rfl, sm_at 26 (by decide +kernel) rfl⟩
def k2_weigh : sm_K := (⟨"TwoFliers$Odds", "weigh", "(II)J"⟩, prog_4_method_2_code, 3, some .long, 7, 0, 0)
theorem me2_weigh : sm_me k2_weigh 2 := ⟨pn2.1, sm_q3 67 rfl rfl, pn2.2.1, pn2.2.2.1, pn2.2.2.2, pd__28II_29J⟩
theorem ms2_weigh : Cond.instanceMethod k2_weigh.1 ∈ sm_tb ∧ Cond.selects k2_weigh.1.cls k2_weigh.1 k2_weigh.1 ∈ sm_tb := ⟨sm_q3 65 rfl rfl, sm_q3 66 rfl rfl⟩
def k7_weighed : sm_K := (⟨"TwoFliers", "weighed", "(I)I"⟩, prog_1_method_59_code, 3, some .int, 8, 0, 0)
theorem me7_weighed : sm_me k7_weighed 1 := ⟨pn7.1, sm_q3 51 rfl rfl, pn7.2.1, pn7.2.2.1, pn7.2.2.2, pd__28I_29I⟩
theorem ms7_weighed : Cond.instanceMethod k7_weighed.1 ∈ sm_tb ∧ Cond.selects k7_weighed.1.cls k7_weighed.1 k7_weighed.1 ∈ sm_tb := ⟨sm_q3 50 rfl rfl, sm_at 16 (by decide +kernel) rfl⟩
def k7_greatestDivisor : sm_K := (⟨"TwoFliers", "greatestDivisor", "(JJ)J"⟩, prog_1_method_61_code, 11, some .long, 1, 0, 0)
theorem me7_greatestDivisor : sm_me k7_greatestDivisor 2 := ⟨pn7.1, sm_q3 131 rfl rfl, pn7.2.1, pn7.2.2.1, pn7.2.2.2, pd__28JJ_29J⟩
theorem ms7_greatestDivisor : Cond.static k7_greatestDivisor.1 ∈ sm_tb := sm_q3 130 rfl rfl
def k7_fraction : sm_K := (⟨"TwoFliers", "fraction", "(JJ)V"⟩, prog_1_method_60_code, 7, none, 2, 0, 0)
theorem me7_fraction : sm_me k7_fraction 2 := ⟨pn7.1, sm_q3 125 rfl rfl, pn7.2.1, pn7.2.2.1, pn7.2.2.2, pd__28JJ_29V⟩
theorem ms7_fraction : Cond.instanceMethod k7_fraction.1 ∈ sm_tb ∧ Cond.selects k7_fraction.1.cls k7_fraction.1 k7_fraction.1 ∈ sm_tb := ⟨sm_q3 124 rfl rfl, sm_at 27 (by decide +kernel) rfl⟩
def k7_where : sm_K := (⟨"TwoFliers", "where", "(II)I"⟩, prog_1_method_25_code, 4, some .int, 9, 0, 0)
theorem me7_where : sm_me k7_where 2 := ⟨pn7.1, sm_q3 44 rfl rfl, pn7.2.1, pn7.2.2.1, pn7.2.2.2, pd__28II_29I⟩
theorem ms7_where : Cond.instanceMethod k7_where.1 ∈ sm_tb ∧ Cond.selects k7_where.1.cls k7_where.1 k7_where.1 ∈ sm_tb := ⟨sm_q3 42 rfl rfl, sm_q3 43 rfl rfl⟩
def k8_askedStory : sm_K := (⟨"TwoFliersModel", "askedStory", "(I)I"⟩, prog_10_method_71_code, 2, some .int, 2, 0, 0)
theorem me8_askedStory : sm_me k8_askedStory 1 := ⟨pn8.1, sm_q5 169 rfl rfl, pn8.2.1, pn8.2.2.1, pn8.2.2.2, pd__28I_29I⟩
theorem ms8_askedStory : Cond.instanceMethod k8_askedStory.1 ∈ sm_tb ∧ Cond.selects k8_askedStory.1.cls k8_askedStory.1 k8_askedStory.1 ∈ sm_tb := ⟨sm_q5 168 rfl rfl, sm_at 47 (by decide +kernel) rfl⟩
def k8_counts : sm_K := (⟨"TwoFliersModel", "counts", "(I)Z"⟩, prog_10_method_61_code, 2, some .boolean, 2, 0, 0)
theorem me8_counts : sm_me k8_counts 1 := ⟨pn8.1, sm_q5 177 rfl rfl, pn8.2.1, pn8.2.2.1, pn8.2.2.2, pd__28I_29Z⟩
theorem ms8_counts : Cond.instanceMethod k8_counts.1 ∈ sm_tb ∧ Cond.selects k8_counts.1.cls k8_counts.1 k8_counts.1 ∈ sm_tb := ⟨sm_q5 176 rfl rfl, sm_at 49 (by decide +kernel) rfl⟩
def k8_counted : sm_K := (⟨"TwoFliersModel", "counted", "()I"⟩, prog_10_method_62_code, 3, some .int, 3, 0, 0)
theorem me8_counted : sm_me k8_counted 0 := ⟨pn8.1, sm_q5 173 rfl rfl, pn8.2.1, pn8.2.2.1, pn8.2.2.2, pd__28_29I⟩
theorem ms8_counted : Cond.instanceMethod k8_counted.1 ∈ sm_tb ∧ Cond.selects k8_counted.1.cls k8_counted.1 k8_counted.1 ∈ sm_tb := ⟨sm_q5 172 rfl rfl, sm_at 48 (by decide +kernel) rfl⟩
def k8_isByHour : sm_K := (⟨"TwoFliersModel", "isByHour", "(I)Z"⟩, prog_10_method_63_code, 1, some .boolean, 1, 0, 0)
theorem me8_isByHour : sm_me k8_isByHour 1 := ⟨pn8.1, sm_q5 192 rfl rfl, pn8.2.1, pn8.2.2.1, pn8.2.2.2, pd__28I_29Z⟩
theorem ms8_isByHour : Cond.static k8_isByHour.1 ∈ sm_tb := sm_q5 191 rfl rfl
def k8_hourWeight : sm_K := (⟨"TwoFliersModel", "hourWeight", "(II)J"⟩, prog_10_method_64_code, 6, some .long, 5, 0, 0)
theorem me8_hourWeight : sm_me k8_hourWeight 2 := ⟨pn8.1, sm_q5 189 rfl rfl, pn8.2.1, pn8.2.2.1, pn8.2.2.2, pd__28II_29J⟩
theorem ms8_hourWeight : Cond.instanceMethod k8_hourWeight.1 ∈ sm_tb ∧ Cond.selects k8_hourWeight.1.cls k8_hourWeight.1 k8_hourWeight.1 ∈ sm_tb := ⟨sm_q5 188 rfl rfl, sm_at 52 (by decide +kernel) rfl⟩
def k8_turned : sm_K := (⟨"TwoFliersModel", "turned", "(II)I"⟩, prog_10_method_66_code, 2, some .int, 1, 0, 0)
theorem me8_turned : sm_me k8_turned 2 := ⟨pn8.1, sm_q5 195 rfl rfl, pn8.2.1, pn8.2.2.1, pn8.2.2.2, pd__28II_29I⟩
theorem ms8_turned : Cond.static k8_turned.1 ∈ sm_tb := sm_q5 194 rfl rfl
def k8_goesTo : sm_K := (⟨"TwoFliersModel", "goesTo", "(II)I"⟩, prog_10_method_26_code, 3, some .int, 3, 0, 0)
theorem me8_goesTo : sm_me k8_goesTo 2 := ⟨pn8.1, sm_q5 198 rfl rfl, pn8.2.1, pn8.2.2.1, pn8.2.2.2, pd__28II_29I⟩
theorem ms8_goesTo : Cond.static k8_goesTo.1 ∈ sm_tb := sm_q5 197 rfl rfl
def k8_setCome : sm_K := (⟨"TwoFliersModel", "setCome", "()V"⟩, prog_10_method_67_code, 7, none, 6, 0, 0)
theorem me8_setCome : sm_me k8_setCome 0 := ⟨pn8.1, sm_q5 185 rfl rfl, pn8.2.1, pn8.2.2.1, pn8.2.2.2, pd__28_29V⟩
theorem ms8_setCome : Cond.instanceMethod k8_setCome.1 ∈ sm_tb ∧ Cond.selects k8_setCome.1.cls k8_setCome.1 k8_setCome.1 ∈ sm_tb := ⟨sm_q5 184 rfl rfl, sm_at 51 (by decide +kernel) rfl⟩
def k8_endOf : sm_K := (⟨"TwoFliersModel", "endOf", "(I)I"⟩, prog_10_method_30_code, 2, some .int, 1, 0, 0)
theorem me8_endOf : sm_me k8_endOf 1 := ⟨pn8.1, sm_q5 208 rfl rfl, pn8.2.1, pn8.2.2.1, pn8.2.2.2, pd__28I_29I⟩
theorem ms8_endOf : Cond.instanceMethod k8_endOf.1 ∈ sm_tb ∧ Cond.selects k8_endOf.1.cls k8_endOf.1 k8_endOf.1 ∈ sm_tb := ⟨sm_q5 207 rfl rfl, sm_at 54 (by decide +kernel) rfl⟩
def k8_endWeight : sm_K := (⟨"TwoFliersModel", "endWeight", "(II)J"⟩, prog_10_method_65_code, 8, some .long, 5, 0, 0)
theorem me8_endWeight : sm_me k8_endWeight 2 := ⟨pn8.1, sm_q5 203 rfl rfl, pn8.2.1, pn8.2.2.1, pn8.2.2.2, pd__28II_29J⟩
theorem ms8_endWeight : Cond.instanceMethod k8_endWeight.1 ∈ sm_tb ∧ Cond.selects k8_endWeight.1.cls k8_endWeight.1 k8_endWeight.1 ∈ sm_tb := ⟨sm_q5 202 rfl rfl, sm_at 53 (by decide +kernel) rfl⟩
def k8_weightOf : sm_K := (⟨"TwoFliersModel", "weightOf", "(I)J"⟩, prog_10_method_70_code, 5, some .long, 5, 0, 0)
theorem me8_weightOf : sm_me k8_weightOf 1 := ⟨pn8.1, sm_q5 212 rfl rfl, pn8.2.1, pn8.2.2.1, pn8.2.2.2, pd__28I_29J⟩
theorem ms8_weightOf : Cond.instanceMethod k8_weightOf.1 ∈ sm_tb ∧ Cond.selects k8_weightOf.1.cls k8_weightOf.1 k8_weightOf.1 ∈ sm_tb := ⟨sm_q5 211 rfl rfl, sm_at 55 (by decide +kernel) rfl⟩
def k8_setEnding : sm_K := (⟨"TwoFliersModel", "setEnding", "(I)V"⟩, prog_10_method_69_code, 8, none, 7, 0, 0)
theorem me8_setEnding : sm_me k8_setEnding 1 := ⟨pn8.1, sm_q5 181 rfl rfl, pn8.2.1, pn8.2.2.1, pn8.2.2.2, pd__28I_29V⟩
theorem ms8_setEnding : Cond.instanceMethod k8_setEnding.1 ∈ sm_tb ∧ Cond.selects k8_setEnding.1.cls k8_setEnding.1 k8_setEnding.1 ∈ sm_tb := ⟨sm_q5 180 rfl rfl, sm_at 50 (by decide +kernel) rfl⟩
def k8_weigh : sm_K := (⟨"TwoFliersModel", "weigh", "(I)I"⟩, prog_10_method_72_code, 3, some .int, 8, 0, 0)
theorem me8_weigh : sm_me k8_weigh 1 := ⟨pn8.1, sm_q5 165 rfl rfl, pn8.2.1, pn8.2.2.1, pn8.2.2.2, pd__28I_29I⟩
theorem ms8_weigh : Cond.instanceMethod k8_weigh.1 ∈ sm_tb ∧ Cond.selects k8_weigh.1.cls k8_weigh.1 k8_weigh.1 ∈ sm_tb := ⟨sm_q5 164 rfl rfl, sm_at 46 (by decide +kernel) rfl⟩
def k8_part : sm_K := (⟨"TwoFliersModel", "part", "(JJI)I"⟩, prog_10_method_6_code, 12, some .int, 1, 0, 0)
theorem me8_part : sm_me k8_part 3 := ⟨pn8.1, sm_q5 217 rfl rfl, pn8.2.1, pn8.2.2.1, pn8.2.2.2, pd__28JJI_29I⟩
theorem ms8_part : Cond.instanceMethod k8_part.1 ∈ sm_tb ∧ Cond.selects k8_part.1.cls k8_part.1 k8_part.1 ∈ sm_tb := ⟨sm_q5 216 rfl rfl, sm_at 56 (by decide +kernel) rfl⟩
def k8_where : sm_K := (⟨"TwoFliersModel", "where", "(II)I"⟩, prog_10_method_74_code, 4, some .int, 9, 0, 0)
theorem me8_where : sm_me k8_where 2 := ⟨pn8.1, sm_q5 161 rfl rfl, pn8.2.1, pn8.2.2.1, pn8.2.2.2, pd__28II_29I⟩
theorem ms8_where : Cond.instanceMethod k8_where.1 ∈ sm_tb ∧ Cond.selects k8_where.1.cls k8_where.1 k8_where.1 ∈ sm_tb := ⟨sm_q5 159 rfl rfl, sm_q5 160 rfl rfl⟩
def k2_greatest : sm_K := (⟨"TwoFliers$Odds", "greatest", "()I"⟩, prog_4_method_5_code, 3, some .int, 1, 0, 0)
theorem me2_greatest : sm_me k2_greatest 0 := ⟨pn2.1, sm_q3 139 rfl rfl, pn2.2.1, pn2.2.2.1, pn2.2.2.2, pd__28_29I⟩
theorem ms2_greatest : Cond.instanceMethod k2_greatest.1 ∈ sm_tb ∧ Cond.selects k2_greatest.1.cls k2_greatest.1 k2_greatest.1 ∈ sm_tb := ⟨sm_q3 137 rfl rfl, sm_q3 138 rfl rfl⟩
def k7_most : sm_K := (⟨"TwoFliers", "most", "(I)I"⟩, prog_1_method_26_code, 4, some .int, 9, 0, 0)
theorem me7_most : sm_me k7_most 1 := ⟨pn7.1, sm_q3 135 rfl rfl, pn7.2.1, pn7.2.2.1, pn7.2.2.2, pd__28I_29I⟩
theorem ms7_most : Cond.instanceMethod k7_most.1 ∈ sm_tb ∧ Cond.selects k7_most.1.cls k7_most.1 k7_most.1 ∈ sm_tb := ⟨sm_q3 133 rfl rfl, sm_q3 134 rfl rfl⟩
def k8_mostOf : sm_K := (⟨"TwoFliersModel", "mostOf", "()I"⟩, prog_10_method_73_code, 3, some .int, 1, 0, 0)
theorem me8_mostOf : sm_me k8_mostOf 0 := ⟨pn8.1, sm_q5 225 rfl rfl, pn8.2.1, pn8.2.2.1, pn8.2.2.2, pd__28_29I⟩
theorem ms8_mostOf : Cond.instanceMethod k8_mostOf.1 ∈ sm_tb ∧ Cond.selects k8_mostOf.1.cls k8_mostOf.1 k8_mostOf.1 ∈ sm_tb := ⟨sm_q5 224 rfl rfl, sm_at 57 (by decide +kernel) rfl⟩
def k8_most : sm_K := (⟨"TwoFliersModel", "most", "(I)I"⟩, prog_10_method_75_code, 3, some .int, 9, 0, 0)
theorem me8_most : sm_me k8_most 1 := ⟨pn8.1, sm_q5 221 rfl rfl, pn8.2.1, pn8.2.2.1, pn8.2.2.2, pd__28I_29I⟩
theorem ms8_most : Cond.instanceMethod k8_most.1 ∈ sm_tb ∧ Cond.selects k8_most.1.cls k8_most.1 k8_most.1 ∈ sm_tb := ⟨sm_q5 219 rfl rfl, sm_q5 220 rfl rfl⟩
def k7_sure : sm_K := (⟨"TwoFliers", "sure", "(III)I"⟩, prog_1_method_27_code, 8, some .int, 9, 0, 0)
theorem me7_sure : sm_me k7_sure 3 := ⟨pn7.1, sm_q3 143 rfl rfl, pn7.2.1, pn7.2.2.1, pn7.2.2.2, pd__28III_29I⟩
theorem ms7_sure : Cond.instanceMethod k7_sure.1 ∈ sm_tb ∧ Cond.selects k7_sure.1.cls k7_sure.1 k7_sure.1 ∈ sm_tb := ⟨sm_q3 141 rfl rfl, sm_q3 142 rfl rfl⟩
def k8_sure : sm_K := (⟨"TwoFliersModel", "sure", "(III)I"⟩, prog_10_method_76_code, 8, some .int, 9, 0, 0)
theorem me8_sure : sm_me k8_sure 3 := ⟨pn8.1, sm_q5 229 rfl rfl, pn8.2.1, pn8.2.2.1, pn8.2.2.2, pd__28III_29I⟩
theorem ms8_sure : Cond.instanceMethod k8_sure.1 ∈ sm_tb ∧ Cond.selects k8_sure.1.cls k8_sure.1 k8_sure.1 ∈ sm_tb := ⟨sm_q5 227 rfl rfl, sm_q5 228 rfl rfl⟩
def k2_weighThrough : sm_K := (⟨"TwoFliers$Odds", "weighThrough", "(II)J"⟩, prog_4_method_3_code, 3, some .long, 7, 0, 0)
theorem me2_weighThrough : sm_me k2_weighThrough 2 := ⟨pn2.1, sm_q3 151 rfl rfl, pn2.2.1, pn2.2.2.1, pn2.2.2.2, pd__28II_29J⟩
theorem ms2_weighThrough : Cond.instanceMethod k2_weighThrough.1 ∈ sm_tb ∧ Cond.selects k2_weighThrough.1.cls k2_weighThrough.1 k2_weighThrough.1 ∈ sm_tb := ⟨sm_q3 149 rfl rfl, sm_q3 150 rfl rfl⟩
def k7_hour : sm_K := (⟨"TwoFliers", "hour", "(II)I"⟩, prog_1_method_28_code, 4, some .int, 9, 0, 0)
theorem me7_hour : sm_me k7_hour 2 := ⟨pn7.1, sm_q3 147 rfl rfl, pn7.2.1, pn7.2.2.1, pn7.2.2.2, pd__28II_29I⟩
theorem ms7_hour : Cond.instanceMethod k7_hour.1 ∈ sm_tb ∧ Cond.selects k7_hour.1.cls k7_hour.1 k7_hour.1 ∈ sm_tb := ⟨sm_q3 145 rfl rfl, sm_q3 146 rfl rfl⟩
def k8_setRest : sm_K := (⟨"TwoFliersModel", "setRest", "()V"⟩, prog_10_method_68_code, 7, none, 6, 0, 0)
theorem me8_setRest : sm_me k8_setRest 0 := ⟨pn8.1, sm_q5 237 rfl rfl, pn8.2.1, pn8.2.2.1, pn8.2.2.2, pd__28_29V⟩
theorem ms8_setRest : Cond.instanceMethod k8_setRest.1 ∈ sm_tb ∧ Cond.selects k8_setRest.1.cls k8_setRest.1 k8_setRest.1 ∈ sm_tb := ⟨sm_q5 236 rfl rfl, sm_at 58 (by decide +kernel) rfl⟩
def k8_hour : sm_K := (⟨"TwoFliersModel", "hour", "(II)I"⟩, prog_10_method_77_code, 6, some .int, 9, 0, 0)
theorem me8_hour : sm_me k8_hour 2 := ⟨pn8.1, sm_q5 233 rfl rfl, pn8.2.1, pn8.2.2.1, pn8.2.2.2, pd__28II_29I⟩
theorem ms8_hour : Cond.instanceMethod k8_hour.1 ∈ sm_tb ∧ Cond.selects k8_hour.1.cls k8_hour.1 k8_hour.1 ∈ sm_tb := ⟨sm_q5 231 rfl rfl, sm_q5 232 rfl rfl⟩
def k7_ended : sm_K := (⟨"TwoFliers", "ended", "(I)I"⟩, prog_1_method_29_code, 3, some .int, 9, 0, 0)
theorem me7_ended : sm_me k7_ended 1 := ⟨pn7.1, sm_q3 155 rfl rfl, pn7.2.1, pn7.2.2.1, pn7.2.2.2, pd__28I_29I⟩
theorem ms7_ended : Cond.instanceMethod k7_ended.1 ∈ sm_tb ∧ Cond.selects k7_ended.1.cls k7_ended.1 k7_ended.1 ∈ sm_tb := ⟨sm_q3 153 rfl rfl, sm_q3 154 rfl rfl⟩
def k8_ended : sm_K := (⟨"TwoFliersModel", "ended", "(I)I"⟩, prog_10_method_78_code, 6, some .int, 9, 0, 0)
theorem me8_ended : sm_me k8_ended 1 := ⟨pn8.1, sm_q6 1 rfl rfl, pn8.2.1, pn8.2.2.1, pn8.2.2.2, pd__28I_29I⟩
theorem ms8_ended : Cond.instanceMethod k8_ended.1 ∈ sm_tb ∧ Cond.selects k8_ended.1.cls k8_ended.1 k8_ended.1 ∈ sm_tb := ⟨sm_q5 239 rfl rfl, sm_q6 0 rfl rfl⟩
def k7_falls : sm_K := (⟨"TwoFliers", "falls", "(III)I"⟩, prog_1_method_30_code, 13, some .int, 8, 0, 0)
theorem me7_falls : sm_me k7_falls 3 := ⟨pn7.1, sm_q3 159 rfl rfl, pn7.2.1, pn7.2.2.1, pn7.2.2.2, pd__28III_29I⟩
theorem ms7_falls : Cond.instanceMethod k7_falls.1 ∈ sm_tb ∧ Cond.selects k7_falls.1.cls k7_falls.1 k7_falls.1 ∈ sm_tb := ⟨sm_q3 157 rfl rfl, sm_q3 158 rfl rfl⟩
def k8_falls : sm_K := (⟨"TwoFliersModel", "falls", "(III)I"⟩, prog_10_method_79_code, 9, some .int, 8, 0, 0)
theorem me8_falls : sm_me k8_falls 3 := ⟨pn8.1, sm_q6 5 rfl rfl, pn8.2.1, pn8.2.2.1, pn8.2.2.2, pd__28III_29I⟩
theorem ms8_falls : Cond.instanceMethod k8_falls.1 ∈ sm_tb ∧ Cond.selects k8_falls.1.cls k8_falls.1 k8_falls.1 ∈ sm_tb := ⟨sm_q6 3 rfl rfl, sm_q6 4 rfl rfl⟩
def k7_turns : sm_K := (⟨"TwoFliers", "turns", "(I)I"⟩, prog_1_method_31_code, 7, some .int, 8, 0, 0)
theorem me7_turns : sm_me k7_turns 1 := ⟨pn7.1, sm_q3 163 rfl rfl, pn7.2.1, pn7.2.2.1, pn7.2.2.2, pd__28I_29I⟩
theorem ms7_turns : Cond.instanceMethod k7_turns.1 ∈ sm_tb ∧ Cond.selects k7_turns.1.cls k7_turns.1 k7_turns.1 ∈ sm_tb := ⟨sm_q3 161 rfl rfl, sm_q3 162 rfl rfl⟩
def k8_turns : sm_K := (⟨"TwoFliersModel", "turns", "(I)I"⟩, prog_10_method_80_code, 6, some .int, 8, 0, 0)
theorem me8_turns : sm_me k8_turns 1 := ⟨pn8.1, sm_q6 9 rfl rfl, pn8.2.1, pn8.2.2.1, pn8.2.2.2, pd__28I_29I⟩
theorem ms8_turns : Cond.instanceMethod k8_turns.1 ∈ sm_tb ∧ Cond.selects k8_turns.1.cls k8_turns.1 k8_turns.1 ∈ sm_tb := ⟨sm_q6 7 rfl rfl, sm_q6 8 rfl rfl⟩
def k7_truly : sm_K := (⟨"TwoFliers", "truly", "(II)I"⟩, prog_1_method_32_code, 7, some .int, 9, 0, 0)
theorem me7_truly : sm_me k7_truly 2 := ⟨pn7.1, sm_q3 168 rfl rfl, pn7.2.1, pn7.2.2.1, pn7.2.2.2, pd__28II_29I⟩
theorem ms7_truly : Cond.instanceMethod k7_truly.1 ∈ sm_tb ∧ Cond.selects k7_truly.1.cls k7_truly.1 k7_truly.1 ∈ sm_tb := ⟨sm_q3 166 rfl rfl, sm_q3 167 rfl rfl⟩
def k8_isVoice : sm_K := (⟨"TwoFliersModel", "isVoice", "(I)Z"⟩, prog_10_method_45_code, 1, some .boolean, 1, 0, 0)
theorem me8_isVoice : sm_me k8_isVoice 1 := ⟨pn8.1, sm_q6 16 rfl rfl, pn8.2.1, pn8.2.2.1, pn8.2.2.2, pd__28I_29Z⟩
theorem ms8_isVoice : Cond.static k8_isVoice.1 ∈ sm_tb := sm_q6 15 rfl rfl
def k8_truly : sm_K := (⟨"TwoFliersModel", "truly", "(II)I"⟩, prog_10_method_81_code, 7, some .int, 9, 0, 0)
theorem me8_truly : sm_me k8_truly 2 := ⟨pn8.1, sm_q6 13 rfl rfl, pn8.2.1, pn8.2.2.1, pn8.2.2.2, pd__28II_29I⟩
theorem ms8_truly : Cond.instanceMethod k8_truly.1 ∈ sm_tb ∧ Cond.selects k8_truly.1.cls k8_truly.1 k8_truly.1 ∈ sm_tb := ⟨sm_q6 11 rfl rfl, sm_q6 12 rfl rfl⟩
def k6_isTrueVoice : sm_K := (⟨"TwoFliers$Sign", "isTrueVoice", "()Z"⟩, prog_8_method_8_code, 1, some .boolean, 1, 0, 0)
theorem me6_isTrueVoice : sm_me k6_isTrueVoice 0 := ⟨pn6.1, sm_q3 181 rfl rfl, pn6.2.1, pn6.2.2.1, pn6.2.2.2, pd__28_29Z⟩
theorem ms6_isTrueVoice : Cond.instanceMethod k6_isTrueVoice.1 ∈ sm_tb ∧ Cond.selects k6_isTrueVoice.1.cls k6_isTrueVoice.1 k6_isTrueVoice.1 ∈ sm_tb := ⟨sm_q3 179 rfl rfl, sm_q3 180 rfl rfl⟩
def k0_anyTrueVoice : sm_K := (⟨"TwoFliers$Book", "anyTrueVoice", "()Z"⟩, prog_2_method_6_code, 2, some .boolean, 2, 0, 0)
theorem me0_anyTrueVoice : sm_me k0_anyTrueVoice 0 := ⟨pn0.1, sm_q3 177 rfl rfl, pn0.2.1, pn0.2.2.1, pn0.2.2.2, pd__28_29Z⟩
theorem ms0_anyTrueVoice : Cond.instanceMethod k0_anyTrueVoice.1 ∈ sm_tb ∧ Cond.selects k0_anyTrueVoice.1.cls k0_anyTrueVoice.1 k0_anyTrueVoice.1 ∈ sm_tb := ⟨sm_q3 175 rfl rfl, sm_q3 176 rfl rfl⟩
def k0_trueVoicesFrom : sm_K := (⟨"TwoFliers$Book", "trueVoicesFrom", "(I)I"⟩, prog_2_method_7_code, 4, some .int, 3, 0, 0)
theorem me0_trueVoicesFrom : sm_me k0_trueVoicesFrom 1 := ⟨pn0.1, sm_q3 185 rfl rfl, pn0.2.1, pn0.2.2.1, pn0.2.2.2, pd__28I_29I⟩
theorem ms0_trueVoicesFrom : Cond.instanceMethod k0_trueVoicesFrom.1 ∈ sm_tb ∧ Cond.selects k0_trueVoicesFrom.1.cls k0_trueVoicesFrom.1 k0_trueVoicesFrom.1 ∈ sm_tb := ⟨sm_q3 183 rfl rfl, sm_q3 184 rfl rfl⟩
def k7_cross : sm_K := (⟨"TwoFliers", "cross", "(I)I"⟩, prog_1_method_33_code, 7, some .int, 4, 0, 0)
theorem me7_cross : sm_me k7_cross 1 := ⟨pn7.1, sm_q3 173 rfl rfl, pn7.2.1, pn7.2.2.1, pn7.2.2.2, pd__28I_29I⟩
theorem ms7_cross : Cond.instanceMethod k7_cross.1 ∈ sm_tb ∧ Cond.selects k7_cross.1.cls k7_cross.1 k7_cross.1 ∈ sm_tb := ⟨sm_q3 171 rfl rfl, sm_q3 172 rfl rfl⟩
def k8_cross : sm_K := (⟨"TwoFliersModel", "cross", "(I)I"⟩, prog_10_method_82_code, 9, some .int, 3, 0, 0)
theorem me8_cross : sm_me k8_cross 1 := ⟨pn8.1, sm_q6 20 rfl rfl, pn8.2.1, pn8.2.2.1, pn8.2.2.2, pd__28I_29I⟩
theorem ms8_cross : Cond.instanceMethod k8_cross.1 ∈ sm_tb ∧ Cond.selects k8_cross.1.cls k8_cross.1 k8_cross.1 ∈ sm_tb := ⟨sm_q6 18 rfl rfl, sm_q6 19 rfl rfl⟩
def k2_bare : sm_K := (⟨"TwoFliers$Odds", "bare", "(I)J"⟩, prog_4_method_4_code, 5, some .long, 1, 0, 0)
theorem me2_bare : sm_me k2_bare 1 := ⟨pn2.1, sm_q3 194 rfl rfl, pn2.2.1, pn2.2.2.1, pn2.2.2.2, pd__28I_29J⟩
theorem ms2_bare : Cond.instanceMethod k2_bare.1 ∈ sm_tb ∧ Cond.selects k2_bare.1.cls k2_bare.1 k2_bare.1 ∈ sm_tb := ⟨sm_q3 192 rfl rfl, sm_q3 193 rfl rfl⟩
def k7_likelier : sm_K := (⟨"TwoFliers", "likelier", "(II)I"⟩, prog_1_method_34_code, 15, some .int, 8, 0, 0)
theorem me7_likelier : sm_me k7_likelier 2 := ⟨pn7.1, sm_q3 190 rfl rfl, pn7.2.1, pn7.2.2.1, pn7.2.2.2, pd__28II_29I⟩
theorem ms7_likelier : Cond.instanceMethod k7_likelier.1 ∈ sm_tb ∧ Cond.selects k7_likelier.1.cls k7_likelier.1 k7_likelier.1 ∈ sm_tb := ⟨sm_q3 188 rfl rfl, sm_q3 189 rfl rfl⟩
def k8_bare : sm_K := (⟨"TwoFliersModel", "bare", "(I)J"⟩, prog_10_method_83_code, 5, some .long, 2, 0, 0)
theorem me8_bare : sm_me k8_bare 1 := ⟨pn8.1, sm_q6 28 rfl rfl, pn8.2.1, pn8.2.2.1, pn8.2.2.2, pd__28I_29J⟩
theorem ms8_bare : Cond.instanceMethod k8_bare.1 ∈ sm_tb ∧ Cond.selects k8_bare.1.cls k8_bare.1 k8_bare.1 ∈ sm_tb := ⟨sm_q6 27 rfl rfl, sm_at 59 (by decide +kernel) rfl⟩
def k8_likelier : sm_K := (⟨"TwoFliersModel", "likelier", "(II)I"⟩, prog_10_method_84_code, 7, some .int, 8, 0, 0)
theorem me8_likelier : sm_me k8_likelier 2 := ⟨pn8.1, sm_q6 24 rfl rfl, pn8.2.1, pn8.2.2.1, pn8.2.2.2, pd__28II_29I⟩
theorem ms8_likelier : Cond.instanceMethod k8_likelier.1 ∈ sm_tb ∧ Cond.selects k8_likelier.1.cls k8_likelier.1 k8_likelier.1 ∈ sm_tb := ⟨sm_q6 22 rfl rfl, sm_q6 23 rfl rfl⟩
def k2_weightBehind : sm_K := (⟨"TwoFliers$Odds", "weightBehind", "(II)J"⟩, prog_4_method_6_code, 7, some .long, 2, 0, 0)
theorem me2_weightBehind : sm_me k2_weightBehind 2 := ⟨pn2.1, sm_q3 203 rfl rfl, pn2.2.1, pn2.2.2.1, pn2.2.2.2, pd__28II_29J⟩
theorem ms2_weightBehind : Cond.instanceMethod k2_weightBehind.1 ∈ sm_tb ∧ Cond.selects k2_weightBehind.1.cls k2_weightBehind.1 k2_weightBehind.1 ∈ sm_tb := ⟨sm_q3 201 rfl rfl, sm_q3 202 rfl rfl⟩
def k1_manyBehind : sm_K := (⟨"TwoFliers$Chart", "manyBehind", "(II)I"⟩, prog_3_method_9_code, 5, some .int, 2, 0, 0)
theorem me1_manyBehind : sm_me k1_manyBehind 2 := ⟨pn1.1, sm_q3 207 rfl rfl, pn1.2.1, pn1.2.2.1, pn1.2.2.2, pd__28II_29I⟩
theorem ms1_manyBehind : Cond.static k1_manyBehind.1 ∈ sm_tb := sm_q3 206 rfl rfl
def k7_line : sm_K := (⟨"TwoFliers", "line", "(III)I"⟩, prog_1_method_35_code, 8, some .int, 9, 0, 0)
theorem me7_line : sm_me k7_line 3 := ⟨pn7.1, sm_q3 198 rfl rfl, pn7.2.1, pn7.2.2.1, pn7.2.2.2, pd__28III_29I⟩
theorem ms7_line : Cond.instanceMethod k7_line.1 ∈ sm_tb ∧ Cond.selects k7_line.1.cls k7_line.1 k7_line.1 ∈ sm_tb := ⟨sm_q3 196 rfl rfl, sm_q3 197 rfl rfl⟩
def k8_line : sm_K := (⟨"TwoFliersModel", "line", "(III)I"⟩, prog_10_method_85_code, 10, some .int, 9, 0, 0)
theorem me8_line : sm_me k8_line 3 := ⟨pn8.1, sm_q6 32 rfl rfl, pn8.2.1, pn8.2.2.1, pn8.2.2.2, pd__28III_29I⟩
theorem ms8_line : Cond.instanceMethod k8_line.1 ∈ sm_tb ∧ Cond.selects k8_line.1.cls k8_line.1 k8_line.1 ∈ sm_tb := ⟨sm_q6 30 rfl rfl, sm_q6 31 rfl rfl⟩
def k5_wasIn : sm_K := (⟨"TwoFliers$Ship", "wasIn", "([III)Z"⟩, prog_7_method_4_code, 4, some .boolean, 1, 0, 0)
theorem me5_wasIn : sm_me k5_wasIn 3 := ⟨pn5.1, sm_q3 223 rfl rfl, pn5.2.1, pn5.2.2.1, pn5.2.2.2, pd__28_5bIII_29Z⟩
theorem ms5_wasIn : Cond.static k5_wasIn.1 ∈ sm_tb := sm_q3 222 rfl rfl
def k5_sail (d : Nat) : sm_K := (⟨"TwoFliers$Ship", "sail", "(LTwoFliers$Ship;[JJIJ)V"⟩, prog_7_method_3_code, 13, none, d + 2, 0, 0)
theorem me5_sail_0 : sm_me (k5_sail 0) 5 := ⟨pn5.1, sm_q3 218 rfl rfl, pn5.2.1, pn5.2.2.1, pn5.2.2.2, pd__28LTwoFliers_24Ship_3b_5bJJIJ_29V⟩
theorem ms5_sail_0 : Cond.static (k5_sail 0).1 ∈ sm_tb := sm_q3 217 rfl rfl
theorem me5_sail (d : Nat) : sm_me (k5_sail d) 5 := me5_sail_0
theorem ms5_sail (d : Nat) : Cond.static (k5_sail d).1 ∈ sm_tb := ms5_sail_0
def k5_search : sm_K := (⟨"TwoFliers$Ship", "search", "([JJII)J"⟩, prog_7_method_2_code, 6, some .long, 12, 0, 0)
theorem me5_search : sm_me k5_search 4 := ⟨pn5.1, sm_q3 215 rfl rfl, pn5.2.1, pn5.2.2.1, pn5.2.2.2, pd__28_5bJJII_29J⟩
theorem ms5_search : Cond.instanceMethod k5_search.1 ∈ sm_tb ∧ Cond.selects k5_search.1.cls k5_search.1 k5_search.1 ∈ sm_tb := ⟨sm_q3 213 rfl rfl, sm_q3 214 rfl rfl⟩
def k5_unlikeCells : sm_K := (⟨"TwoFliers$Ship", "unlikeCells", "(I)I"⟩, prog_7_method_5_code, 4, some .int, 2, 0, 0)
theorem me5_unlikeCells : sm_me k5_unlikeCells 1 := ⟨pn5.1, sm_q3 227 rfl rfl, pn5.2.1, pn5.2.2.1, pn5.2.2.2, pd__28I_29I⟩
theorem ms5_unlikeCells : Cond.instanceMethod k5_unlikeCells.1 ∈ sm_tb ∧ Cond.selects k5_unlikeCells.1.cls k5_unlikeCells.1 k5_unlikeCells.1 ∈ sm_tb := ⟨sm_q3 225 rfl rfl, sm_q3 226 rfl rfl⟩
def k7_drag : sm_K := (⟨"TwoFliers", "drag", "(IIII)I"⟩, prog_1_method_36_code, 6, some .int, 13, 0, 0)
theorem me7_drag : sm_me k7_drag 4 := ⟨pn7.1, sm_q3 211 rfl rfl, pn7.2.1, pn7.2.2.1, pn7.2.2.2, pd__28IIII_29I⟩
theorem ms7_drag : Cond.instanceMethod k7_drag.1 ∈ sm_tb ∧ Cond.selects k7_drag.1.cls k7_drag.1 k7_drag.1 ∈ sm_tb := ⟨sm_q3 209 rfl rfl, sm_q3 210 rfl rfl⟩
def k8_wasThere : sm_K := (⟨"TwoFliersModel", "wasThere", "(II)Z"⟩, prog_10_method_86_code, 5, some .boolean, 1, 0, 0)
theorem me8_wasThere : sm_me k8_wasThere 2 := ⟨pn8.1, sm_q6 45 rfl rfl, pn8.2.1, pn8.2.2.1, pn8.2.2.2, pd__28II_29Z⟩
theorem ms8_wasThere : Cond.instanceMethod k8_wasThere.1 ∈ sm_tb ∧ Cond.selects k8_wasThere.1.cls k8_wasThere.1 k8_wasThere.1 ∈ sm_tb := ⟨sm_q6 44 rfl rfl, sm_at 61 (by decide +kernel) rfl⟩
def k8_dragOn (d : Nat) : sm_K := (⟨"TwoFliersModel", "dragOn", "(IIIJI)V"⟩, prog_10_method_87_code, 12, none, d + 2, 0, 0)
theorem me8_dragOn_0 : sm_me (k8_dragOn 0) 5 := ⟨pn8.1, sm_q6 41 rfl rfl, pn8.2.1, pn8.2.2.1, pn8.2.2.2, pd__28IIIJI_29V⟩
theorem ms8_dragOn_0 : Cond.instanceMethod (k8_dragOn 0).1 ∈ sm_tb ∧ Cond.selects (k8_dragOn 0).1.cls (k8_dragOn 0).1 (k8_dragOn 0).1 ∈ sm_tb := ⟨sm_q6 40 rfl rfl, sm_at 60 (by decide +kernel) rfl⟩
theorem me8_dragOn (d : Nat) : sm_me (k8_dragOn d) 5 := me8_dragOn_0
theorem ms8_dragOn (d : Nat) : Cond.instanceMethod (k8_dragOn d).1 ∈ sm_tb ∧ Cond.selects (k8_dragOn d).1.cls (k8_dragOn d).1 (k8_dragOn d).1 ∈ sm_tb := ms8_dragOn_0
def k8_drag : sm_K := (⟨"TwoFliersModel", "drag", "(IIII)I"⟩, prog_10_method_88_code, 7, some .int, 12, 0, 0)
theorem me8_drag : sm_me k8_drag 4 := ⟨pn8.1, sm_q6 36 rfl rfl, pn8.2.1, pn8.2.2.1, pn8.2.2.2, pd__28IIII_29I⟩
theorem ms8_drag : Cond.instanceMethod k8_drag.1 ∈ sm_tb ∧ Cond.selects k8_drag.1.cls k8_drag.1 k8_drag.1 ∈ sm_tb := ⟨sm_q6 34 rfl rfl, sm_q6 35 rfl rfl⟩
def k3_comesIn : sm_K := (⟨"TwoFliers$Plane", "comesIn", "(IIII)Z"⟩, prog_5_method_6_code, 8, some .boolean, 3, 0, 0)
theorem me3_comesIn : sm_me k3_comesIn 4 := ⟨pn3.1, sm_q3 235 rfl rfl, pn3.2.1, pn3.2.2.1, pn3.2.2.2, pd__28IIII_29Z⟩
theorem ms3_comesIn : Cond.instanceMethod k3_comesIn.1 ∈ sm_tb ∧ Cond.selects k3_comesIn.1.cls k3_comesIn.1 k3_comesIn.1 ∈ sm_tb := ⟨sm_q3 233 rfl rfl, sm_q3 234 rfl rfl⟩
def k3_toldAs : sm_K := (⟨"TwoFliers$Plane", "toldAs", "(I)I"⟩, prog_5_method_9_code, 1, some .int, 1, 0, 0)
theorem me3_toldAs : sm_me k3_toldAs 1 := ⟨pn3.1, sm_q4 5 rfl rfl, pn3.2.1, pn3.2.2.1, pn3.2.2.2, pd__28I_29I⟩
theorem ms3_toldAs : Cond.static k3_toldAs.1 ∈ sm_tb := sm_q4 4 rfl rfl
def k3_firstChange : sm_K := (⟨"TwoFliers$Plane", "firstChange", "(II)I"⟩, prog_5_method_7_code, 4, some .int, 4, 0, 0)
theorem me3_firstChange : sm_me k3_firstChange 2 := ⟨pn3.1, sm_q4 1 rfl rfl, pn3.2.1, pn3.2.2.1, pn3.2.2.2, pd__28II_29I⟩
theorem ms3_firstChange : Cond.instanceMethod k3_firstChange.1 ∈ sm_tb ∧ Cond.selects k3_firstChange.1.cls k3_firstChange.1 k3_firstChange.1 ∈ sm_tb := ⟨sm_q3 239 rfl rfl, sm_q4 0 rfl rfl⟩
def k3_firstTwoChanges : sm_K := (⟨"TwoFliers$Plane", "firstTwoChanges", "(II)I"⟩, prog_5_method_8_code, 7, some .int, 4, 0, 0)
theorem me3_firstTwoChanges : sm_me k3_firstTwoChanges 2 := ⟨pn3.1, sm_q4 9 rfl rfl, pn3.2.1, pn3.2.2.1, pn3.2.2.2, pd__28II_29I⟩
theorem ms3_firstTwoChanges : Cond.instanceMethod k3_firstTwoChanges.1 ∈ sm_tb ∧ Cond.selects k3_firstTwoChanges.1.cls k3_firstTwoChanges.1 k3_firstTwoChanges.1 ∈ sm_tb := ⟨sm_q4 7 rfl rfl, sm_q4 8 rfl rfl⟩
def k7_brought : sm_K := (⟨"TwoFliers", "brought", "(II)I"⟩, prog_1_method_37_code, 5, some .int, 5, 0, 0)
theorem me7_brought : sm_me k7_brought 2 := ⟨pn7.1, sm_q3 231 rfl rfl, pn7.2.1, pn7.2.2.1, pn7.2.2.2, pd__28II_29I⟩
theorem ms7_brought : Cond.instanceMethod k7_brought.1 ∈ sm_tb ∧ Cond.selects k7_brought.1.cls k7_brought.1 k7_brought.1 ∈ sm_tb := ⟨sm_q3 229 rfl rfl, sm_q3 230 rfl rfl⟩
def k8_comesIn : sm_K := (⟨"TwoFliersModel", "comesIn", "(II)Z"⟩, prog_10_method_89_code, 6, some .boolean, 4, 0, 0)
theorem me8_comesIn : sm_me k8_comesIn 2 := ⟨pn8.1, sm_q6 54 rfl rfl, pn8.2.1, pn8.2.2.1, pn8.2.2.2, pd__28II_29Z⟩
theorem ms8_comesIn : Cond.instanceMethod k8_comesIn.1 ∈ sm_tb ∧ Cond.selects k8_comesIn.1.cls k8_comesIn.1 k8_comesIn.1 ∈ sm_tb := ⟨sm_q6 53 rfl rfl, sm_at 62 (by decide +kernel) rfl⟩
def k8_brought : sm_K := (⟨"TwoFliersModel", "brought", "(II)I"⟩, prog_10_method_90_code, 10, some .int, 5, 0, 0)
theorem me8_brought : sm_me k8_brought 2 := ⟨pn8.1, sm_q6 50 rfl rfl, pn8.2.1, pn8.2.2.1, pn8.2.2.2, pd__28II_29I⟩
theorem ms8_brought : Cond.instanceMethod k8_brought.1 ∈ sm_tb ∧ Cond.selects k8_brought.1.cls k8_brought.1 k8_brought.1 ∈ sm_tb := ⟨sm_q6 48 rfl rfl, sm_q6 49 rfl rfl⟩
def k7_draw : sm_K := (⟨"TwoFliers", "draw", "(II)I"⟩, prog_1_method_38_code, 9, some .int, 3, 0, 0)
theorem me7_draw : sm_me k7_draw 2 := ⟨pn7.1, sm_q4 13 rfl rfl, pn7.2.1, pn7.2.2.1, pn7.2.2.2, pd__28II_29I⟩
theorem ms7_draw : Cond.instanceMethod k7_draw.1 ∈ sm_tb ∧ Cond.selects k7_draw.1.cls k7_draw.1 k7_draw.1 ∈ sm_tb := ⟨sm_q4 11 rfl rfl, sm_q4 12 rfl rfl⟩
def k8_draw : sm_K := (⟨"TwoFliersModel", "draw", "(II)I"⟩, prog_10_method_91_code, 8, some .int, 4, 0, 0)
theorem me8_draw : sm_me k8_draw 2 := ⟨pn8.1, sm_q6 58 rfl rfl, pn8.2.1, pn8.2.2.1, pn8.2.2.2, pd__28II_29I⟩
theorem ms8_draw : Cond.instanceMethod k8_draw.1 ∈ sm_tb ∧ Cond.selects k8_draw.1.cls k8_draw.1 k8_draw.1 ∈ sm_tb := ⟨sm_q6 56 rfl rfl, sm_q6 57 rfl rfl⟩
def k0_undoneBits : sm_K := (⟨"TwoFliers$Book", "undoneBits", "()I"⟩, prog_2_method_8_code, 3, some .int, 1, 0, 0)
theorem me0_undoneBits : sm_me k0_undoneBits 0 := ⟨pn0.1, sm_q4 26 rfl rfl, pn0.2.1, pn0.2.2.1, pn0.2.2.2, pd__28_29I⟩
theorem ms0_undoneBits : Cond.instanceMethod k0_undoneBits.1 ∈ sm_tb ∧ Cond.selects k0_undoneBits.1.cls k0_undoneBits.1 k0_undoneBits.1 ∈ sm_tb := ⟨sm_q4 24 rfl rfl, sm_q4 25 rfl rfl⟩
def k7_image : sm_K := (⟨"TwoFliers", "image", "(I)I"⟩, prog_1_method_39_code, 3, some .int, 3, 0, 0)
theorem me7_image : sm_me k7_image 1 := ⟨pn7.1, sm_q4 22 rfl rfl, pn7.2.1, pn7.2.2.1, pn7.2.2.2, pd__28I_29I⟩
theorem ms7_image : Cond.instanceMethod k7_image.1 ∈ sm_tb ∧ Cond.selects k7_image.1.cls k7_image.1 k7_image.1 ∈ sm_tb := ⟨sm_q4 20 rfl rfl, sm_q4 21 rfl rfl⟩
def k8_undoneSet : sm_K := (⟨"TwoFliersModel", "undoneSet", "()I"⟩, prog_10_method_92_code, 3, some .int, 2, 0, 0)
theorem me8_undoneSet : sm_me k8_undoneSet 0 := ⟨pn8.1, sm_q6 69 rfl rfl, pn8.2.1, pn8.2.2.1, pn8.2.2.2, pd__28_29I⟩
theorem ms8_undoneSet : Cond.instanceMethod k8_undoneSet.1 ∈ sm_tb ∧ Cond.selects k8_undoneSet.1.cls k8_undoneSet.1 k8_undoneSet.1 ∈ sm_tb := ⟨sm_q6 68 rfl rfl, sm_at 63 (by decide +kernel) rfl⟩
def k8_image : sm_K := (⟨"TwoFliersModel", "image", "(I)I"⟩, prog_10_method_93_code, 3, some .int, 4, 0, 0)
theorem me8_image : sm_me k8_image 1 := ⟨pn8.1, sm_q6 65 rfl rfl, pn8.2.1, pn8.2.2.1, pn8.2.2.2, pd__28I_29I⟩
theorem ms8_image : Cond.instanceMethod k8_image.1 ∈ sm_tb ∧ Cond.selects k8_image.1.cls k8_image.1 k8_image.1 ∈ sm_tb := ⟨sm_q6 63 rfl rfl, sm_q6 64 rfl rfl⟩
def k3_couldTell : sm_K := (⟨"TwoFliers$Plane", "couldTell", "([I)Z"⟩, prog_5_method_4_code, 5, some .boolean, 2, 0, 0)
theorem me3_couldTell : sm_me k3_couldTell 1 := ⟨pn3.1, sm_q4 33 rfl rfl, pn3.2.1, pn3.2.2.1, pn3.2.2.2, pd__28_5bI_29Z⟩
theorem ms3_couldTell : Cond.static k3_couldTell.1 ∈ sm_tb := sm_q4 32 rfl rfl
def k3_goOn : sm_K := (⟨"TwoFliers$Plane", "goOn", "([I)V"⟩, prog_5_method_5_code, 2, none, 1, 0, 0)
theorem me3_goOn : sm_me k3_goOn 1 := ⟨pn3.1, sm_q4 40 rfl rfl, pn3.2.1, pn3.2.2.1, pn3.2.2.2, pd__28_5bI_29V⟩
theorem ms3_goOn : Cond.instanceMethod k3_goOn.1 ∈ sm_tb ∧ Cond.selects k3_goOn.1.cls k3_goOn.1 k3_goOn.1 ∈ sm_tb := ⟨sm_q4 38 rfl rfl, sm_q4 39 rfl rfl⟩
def k0_undoBits : sm_K := (⟨"TwoFliers$Book", "undoBits", "(I)V"⟩, prog_2_method_9_code, 3, none, 1, 0, 0)
theorem me0_undoBits : sm_me k0_undoBits 1 := ⟨pn0.1, sm_q4 44 rfl rfl, pn0.2.1, pn0.2.2.1, pn0.2.2.2, pd__28I_29V⟩
theorem ms0_undoBits : Cond.instanceMethod k0_undoBits.1 ∈ sm_tb ∧ Cond.selects k0_undoBits.1.cls k0_undoBits.1 k0_undoBits.1 ∈ sm_tb := ⟨sm_q4 42 rfl rfl, sm_q4 43 rfl rfl⟩
def k7_on : sm_K := (⟨"TwoFliers", "on", "(I)I"⟩, prog_1_method_40_code, 3, some .int, 3, 0, 0)
theorem me7_on : sm_me k7_on 1 := ⟨pn7.1, sm_q4 30 rfl rfl, pn7.2.1, pn7.2.2.1, pn7.2.2.2, pd__28I_29I⟩
theorem ms7_on : Cond.instanceMethod k7_on.1 ∈ sm_tb ∧ Cond.selects k7_on.1.cls k7_on.1 k7_on.1 ∈ sm_tb := ⟨sm_q4 28 rfl rfl, sm_q4 29 rfl rfl⟩
def k8_isImage : sm_K := (⟨"TwoFliersModel", "isImage", "(I)Z"⟩, prog_10_method_94_code, 7, some .boolean, 3, 0, 0)
theorem me8_isImage : sm_me k8_isImage 1 := ⟨pn8.1, sm_q6 77 rfl rfl, pn8.2.1, pn8.2.2.1, pn8.2.2.2, pd__28I_29Z⟩
theorem ms8_isImage : Cond.instanceMethod k8_isImage.1 ∈ sm_tb ∧ Cond.selects k8_isImage.1.cls k8_isImage.1 k8_isImage.1 ∈ sm_tb := ⟨sm_q6 76 rfl rfl, sm_at 64 (by decide +kernel) rfl⟩
def k8_on : sm_K := (⟨"TwoFliersModel", "on", "(I)I"⟩, prog_10_method_95_code, 4, some .int, 4, 0, 0)
theorem me8_on : sm_me k8_on 1 := ⟨pn8.1, sm_q6 73 rfl rfl, pn8.2.1, pn8.2.2.1, pn8.2.2.2, pd__28I_29I⟩
theorem ms8_on : Cond.instanceMethod k8_on.1 ∈ sm_tb ∧ Cond.selects k8_on.1.cls k8_on.1 k8_on.1 ∈ sm_tb := ⟨sm_q6 71 rfl rfl, sm_q6 72 rfl rfl⟩
def k7_asked : sm_K := (⟨"TwoFliers", "asked", "()I"⟩, prog_1_method_41_code, 1, some .int, 1, 0, 0)
theorem me7_asked : sm_me k7_asked 0 := ⟨pn7.1, sm_q4 48 rfl rfl, pn7.2.1, pn7.2.2.1, pn7.2.2.2, pd__28_29I⟩
theorem ms7_asked : Cond.instanceMethod k7_asked.1 ∈ sm_tb ∧ Cond.selects k7_asked.1.cls k7_asked.1 k7_asked.1 ∈ sm_tb := ⟨sm_q4 46 rfl rfl, sm_q4 47 rfl rfl⟩
def k8_asked : sm_K := (⟨"TwoFliersModel", "asked", "()I"⟩, prog_10_method_96_code, 1, some .int, 1, 0, 0)
theorem me8_asked : sm_me k8_asked 0 := ⟨pn8.1, sm_q6 81 rfl rfl, pn8.2.1, pn8.2.2.1, pn8.2.2.2, pd__28_29I⟩
theorem ms8_asked : Cond.instanceMethod k8_asked.1 ∈ sm_tb ∧ Cond.selects k8_asked.1.cls k8_asked.1 k8_asked.1 ∈ sm_tb := ⟨sm_q6 79 rfl rfl, sm_q6 80 rfl rfl⟩
def k7_upper : sm_K := (⟨"TwoFliers", "upper", "()J"⟩, prog_1_method_42_code, 1, some .long, 1, 0, 0)
theorem me7_upper : sm_me k7_upper 0 := ⟨pn7.1, sm_q4 52 rfl rfl, pn7.2.1, pn7.2.2.1, pn7.2.2.2, pd__28_29J⟩
theorem ms7_upper : Cond.instanceMethod k7_upper.1 ∈ sm_tb ∧ Cond.selects k7_upper.1.cls k7_upper.1 k7_upper.1 ∈ sm_tb := ⟨sm_q4 50 rfl rfl, sm_q4 51 rfl rfl⟩
def k8_upper : sm_K := (⟨"TwoFliersModel", "upper", "()J"⟩, prog_10_method_97_code, 1, some .long, 1, 0, 0)
theorem me8_upper : sm_me k8_upper 0 := ⟨pn8.1, sm_q6 85 rfl rfl, pn8.2.1, pn8.2.2.1, pn8.2.2.2, pd__28_29J⟩
theorem ms8_upper : Cond.instanceMethod k8_upper.1 ∈ sm_tb ∧ Cond.selects k8_upper.1.cls k8_upper.1 k8_upper.1 ∈ sm_tb := ⟨sm_q6 83 rfl rfl, sm_q6 84 rfl rfl⟩
def k7_lower : sm_K := (⟨"TwoFliers", "lower", "()J"⟩, prog_1_method_43_code, 1, some .long, 1, 0, 0)
theorem me7_lower : sm_me k7_lower 0 := ⟨pn7.1, sm_q4 56 rfl rfl, pn7.2.1, pn7.2.2.1, pn7.2.2.2, pd__28_29J⟩
theorem ms7_lower : Cond.instanceMethod k7_lower.1 ∈ sm_tb ∧ Cond.selects k7_lower.1.cls k7_lower.1 k7_lower.1 ∈ sm_tb := ⟨sm_q4 54 rfl rfl, sm_q4 55 rfl rfl⟩
def k8_lower : sm_K := (⟨"TwoFliersModel", "lower", "()J"⟩, prog_10_method_98_code, 1, some .long, 1, 0, 0)
theorem me8_lower : sm_me k8_lower 0 := ⟨pn8.1, sm_q6 89 rfl rfl, pn8.2.1, pn8.2.2.1, pn8.2.2.2, pd__28_29J⟩
theorem ms8_lower : Cond.instanceMethod k8_lower.1 ∈ sm_tb ∧ Cond.selects k8_lower.1.cls k8_lower.1 k8_lower.1 ∈ sm_tb := ⟨sm_q6 87 rfl rfl, sm_q6 88 rfl rfl⟩
def k7_storiesThere : sm_K := (⟨"TwoFliers", "storiesThere", "()I"⟩, prog_1_method_62_code, 3, some .int, 1, 0, 0)
theorem me7_storiesThere : sm_me k7_storiesThere 0 := ⟨pn7.1, sm_q4 64 rfl rfl, pn7.2.1, pn7.2.2.1, pn7.2.2.2, pd__28_29I⟩
theorem ms7_storiesThere : Cond.instanceMethod k7_storiesThere.1 ∈ sm_tb ∧ Cond.selects k7_storiesThere.1.cls k7_storiesThere.1 k7_storiesThere.1 ∈ sm_tb := ⟨sm_q4 63 rfl rfl, sm_at 28 (by decide +kernel) rfl⟩
def k0_voices : sm_K := (⟨"TwoFliers$Book", "voices", "()I"⟩, prog_2_method_5_code, 3, some .int, 2, 0, 0)
theorem me0_voices : sm_me k0_voices 0 := ⟨pn0.1, sm_q4 68 rfl rfl, pn0.2.1, pn0.2.2.1, pn0.2.2.2, pd__28_29I⟩
theorem ms0_voices : Cond.instanceMethod k0_voices.1 ∈ sm_tb ∧ Cond.selects k0_voices.1.cls k0_voices.1 k0_voices.1 ∈ sm_tb := ⟨sm_q4 66 rfl rfl, sm_q4 67 rfl rfl⟩
def kJ_bitCount : sm_K := (⟨"java/lang/Integer", "bitCount", "(I)I"⟩, prog_11_method_49_code, 1, some .int, 1, 0, 0)
theorem meJ_bitCount : sm_me kJ_bitCount 1 := ⟨pnJ.1, sm_q4 72 rfl rfl, pnJ.2.1, pnJ.2.2.1, pnJ.2.2.2, pd__28I_29I⟩
theorem msJ_bitCount : Cond.static kJ_bitCount.1 ∈ sm_tb := sm_q4 71 rfl rfl
def k7_howManyThere : sm_K := (⟨"TwoFliers", "howManyThere", "([I)I"⟩, prog_1_method_63_code, 3, some .int, 1, 0, 0)
theorem me7_howManyThere : sm_me k7_howManyThere 1 := ⟨pn7.1, sm_q4 78 rfl rfl, pn7.2.1, pn7.2.2.1, pn7.2.2.2, pd__28_5bI_29I⟩
theorem ms7_howManyThere : Cond.static k7_howManyThere.1 ∈ sm_tb := sm_q4 77 rfl rfl
def k7_count : sm_K := (⟨"TwoFliers", "count", "(I)I"⟩, prog_1_method_44_code, 2, some .int, 3, 0, 0)
theorem me7_count : sm_me k7_count 1 := ⟨pn7.1, sm_q4 60 rfl rfl, pn7.2.1, pn7.2.2.1, pn7.2.2.2, pd__28I_29I⟩
theorem ms7_count : Cond.instanceMethod k7_count.1 ∈ sm_tb ∧ Cond.selects k7_count.1.cls k7_count.1 k7_count.1 ∈ sm_tb := ⟨sm_q4 58 rfl rfl, sm_q4 59 rfl rfl⟩
def k8_countsOf : sm_K := (⟨"TwoFliersModel", "countsOf", "(I)I"⟩, prog_10_method_99_code, 4, some .int, 2, 0, 0)
theorem me8_countsOf : sm_me k8_countsOf 1 := ⟨pn8.1, sm_q6 97 rfl rfl, pn8.2.1, pn8.2.2.1, pn8.2.2.2, pd__28I_29I⟩
theorem ms8_countsOf : Cond.instanceMethod k8_countsOf.1 ∈ sm_tb ∧ Cond.selects k8_countsOf.1.cls k8_countsOf.1 k8_countsOf.1 ∈ sm_tb := ⟨sm_q6 96 rfl rfl, sm_at 65 (by decide +kernel) rfl⟩
def k8_count : sm_K := (⟨"TwoFliersModel", "count", "(I)I"⟩, prog_10_method_100_code, 2, some .int, 3, 0, 0)
theorem me8_count : sm_me k8_count 1 := ⟨pn8.1, sm_q6 93 rfl rfl, pn8.2.1, pn8.2.2.1, pn8.2.2.2, pd__28I_29I⟩
theorem ms8_count : Cond.instanceMethod k8_count.1 ∈ sm_tb ∧ Cond.selects k8_count.1.cls k8_count.1 k8_count.1 ∈ sm_tb := ⟨sm_q6 91 rfl rfl, sm_q6 92 rfl rfl⟩
def k7_finding : sm_K := (⟨"TwoFliers", "finding", "()I"⟩, prog_1_method_45_code, 1, some .int, 1, 0, 0)
theorem me7_finding : sm_me k7_finding 0 := ⟨pn7.1, sm_q4 82 rfl rfl, pn7.2.1, pn7.2.2.1, pn7.2.2.2, pd__28_29I⟩
theorem ms7_finding : Cond.instanceMethod k7_finding.1 ∈ sm_tb ∧ Cond.selects k7_finding.1.cls k7_finding.1 k7_finding.1 ∈ sm_tb := ⟨sm_q4 80 rfl rfl, sm_q4 81 rfl rfl⟩
def k8_finding : sm_K := (⟨"TwoFliersModel", "finding", "()I"⟩, prog_10_method_101_code, 1, some .int, 1, 0, 0)
theorem me8_finding : sm_me k8_finding 0 := ⟨pn8.1, sm_q6 101 rfl rfl, pn8.2.1, pn8.2.2.1, pn8.2.2.2, pd__28_29I⟩
theorem ms8_finding : Cond.instanceMethod k8_finding.1 ∈ sm_tb ∧ Cond.selects k8_finding.1.cls k8_finding.1 k8_finding.1 ∈ sm_tb := ⟨sm_q6 99 rfl rfl, sm_q6 100 rfl rfl⟩
def k7_findings : sm_K := (⟨"TwoFliers", "findings", "(I)I"⟩, prog_1_method_46_code, 2, some .int, 1, 0, 0)
theorem me7_findings : sm_me k7_findings 1 := ⟨pn7.1, sm_q4 86 rfl rfl, pn7.2.1, pn7.2.2.1, pn7.2.2.2, pd__28I_29I⟩
theorem ms7_findings : Cond.instanceMethod k7_findings.1 ∈ sm_tb ∧ Cond.selects k7_findings.1.cls k7_findings.1 k7_findings.1 ∈ sm_tb := ⟨sm_q4 84 rfl rfl, sm_q4 85 rfl rfl⟩
def k8_findings : sm_K := (⟨"TwoFliersModel", "findings", "(I)I"⟩, prog_10_method_102_code, 2, some .int, 2, 0, 0)
theorem me8_findings : sm_me k8_findings 1 := ⟨pn8.1, sm_q6 105 rfl rfl, pn8.2.1, pn8.2.2.1, pn8.2.2.2, pd__28I_29I⟩
theorem ms8_findings : Cond.instanceMethod k8_findings.1 ∈ sm_tb ∧ Cond.selects k8_findings.1.cls k8_findings.1 k8_findings.1 ∈ sm_tb := ⟨sm_q6 103 rfl rfl, sm_q6 104 rfl rfl⟩
def k7_digestInts : sm_K := (⟨"TwoFliers", "digestInts", "(J[II)J"⟩, prog_1_method_48_code, 7, some .long, 1, 0, 0)
theorem me7_digestInts : sm_me k7_digestInts 3 := ⟨pn7.1, sm_q4 96 rfl rfl, pn7.2.1, pn7.2.2.1, pn7.2.2.2, pd__28J_5bII_29J⟩
theorem ms7_digestInts : Cond.static k7_digestInts.1 ∈ sm_tb := sm_q4 95 rfl rfl
def k7_digest : sm_K := (⟨"TwoFliers", "digest", "()J"⟩, prog_1_method_47_code, 5, some .long, 4, 0, 0)
theorem me7_digest : sm_me k7_digest 0 := ⟨pn7.1, sm_q4 90 rfl rfl, pn7.2.1, pn7.2.2.1, pn7.2.2.2, pd__28_29J⟩
theorem ms7_digest : Cond.instanceMethod k7_digest.1 ∈ sm_tb ∧ Cond.selects k7_digest.1.cls k7_digest.1 k7_digest.1 ∈ sm_tb := ⟨sm_q4 88 rfl rfl, sm_q4 89 rfl rfl⟩
def k8_mix : sm_K := (⟨"TwoFliersModel", "mix", "(I)V"⟩, prog_10_method_103_code, 2, none, 1, 0, 0)
theorem me8_mix : sm_me k8_mix 1 := ⟨pn8.1, sm_q6 114 rfl rfl, pn8.2.1, pn8.2.2.1, pn8.2.2.2, pd__28I_29V⟩
theorem ms8_mix : Cond.instanceMethod k8_mix.1 ∈ sm_tb ∧ Cond.selects k8_mix.1.cls k8_mix.1 k8_mix.1 ∈ sm_tb := ⟨sm_q6 113 rfl rfl, sm_at 66 (by decide +kernel) rfl⟩
def k8_mixFlight : sm_K := (⟨"TwoFliersModel", "mixFlight", "()V"⟩, prog_10_method_104_code, 3, none, 2, 0, 0)
theorem me8_mixFlight : sm_me k8_mixFlight 0 := ⟨pn8.1, sm_q6 119 rfl rfl, pn8.2.1, pn8.2.2.1, pn8.2.2.2, pd__28_29V⟩
theorem ms8_mixFlight : Cond.instanceMethod k8_mixFlight.1 ∈ sm_tb ∧ Cond.selects k8_mixFlight.1.cls k8_mixFlight.1 k8_mixFlight.1 ∈ sm_tb := ⟨sm_q6 118 rfl rfl, sm_at 67 (by decide +kernel) rfl⟩
def k8_digest : sm_K := (⟨"TwoFliersModel", "digest", "()J"⟩, prog_10_method_105_code, 3, some .long, 3, 0, 0)
theorem me8_digest : sm_me k8_digest 0 := ⟨pn8.1, sm_q6 109 rfl rfl, pn8.2.1, pn8.2.2.1, pn8.2.2.2, pd__28_29J⟩
theorem ms8_digest : Cond.instanceMethod k8_digest.1 ∈ sm_tb ∧ Cond.selects k8_digest.1.cls k8_digest.1 k8_digest.1 ∈ sm_tb := ⟨sm_q6 107 rfl rfl, sm_q6 108 rfl rfl⟩
theorem cb_10 : (Int8.ofInt 10).toInt32 = 10 := by decide
theorem cb_100 : (Int8.ofInt 100).toInt32 = 100 := by decide
theorem cb_108 : (Int8.ofInt 108).toInt32 = 108 := by decide
theorem cb_11 : (Int8.ofInt 11).toInt32 = 11 := by decide
theorem cb_114 : (Int8.ofInt 114).toInt32 = 114 := by decide
theorem cb_119 : (Int8.ofInt 119).toInt32 = 119 := by decide
theorem cb_12 : (Int8.ofInt 12).toInt32 = 12 := by decide
theorem cb_120 : (Int8.ofInt 120).toInt32 = 120 := by decide
theorem cb_14 : (Int8.ofInt 14).toInt32 = 14 := by decide
theorem cb_15 : (Int8.ofInt 15).toInt32 = 15 := by decide
theorem cb_16 : (Int8.ofInt 16).toInt32 = 16 := by decide
theorem cb_32 : (Int8.ofInt 32).toInt32 = 32 := by decide
theorem cb_40 : (Int8.ofInt 40).toInt32 = 40 := by decide
theorem cb_48 : (Int8.ofInt 48).toInt32 = 48 := by decide
theorem cb_57 : (Int8.ofInt 57).toInt32 = 57 := by decide
theorem cb_58 : (Int8.ofInt 58).toInt32 = 58 := by decide
theorem cb_6 : (Int8.ofInt 6).toInt32 = 6 := by decide
theorem cb_61 : (Int8.ofInt 61).toInt32 = 61 := by decide
theorem cb_63 : (Int8.ofInt 63).toInt32 = 63 := by decide
theorem cb_64 : (Int8.ofInt 64).toInt32 = 64 := by decide
theorem cb_7 : (Int8.ofInt 7).toInt32 = 7 := by decide
theorem cb_8 : (Int8.ofInt 8).toInt32 = 8 := by decide
theorem cb_80 : (Int8.ofInt 80).toInt32 = 80 := by decide
theorem cb_9 : (Int8.ofInt 9).toInt32 = 9 := by decide
theorem cb_97 : (Int8.ofInt 97).toInt32 = 97 := by decide
theorem cb_99 : (Int8.ofInt 99).toInt32 = 99 := by decide
theorem cb_m2 : (Int8.ofInt (-2)).toInt32 = (-2) := by decide
theorem cb_m3 : (Int8.ofInt (-3)).toInt32 = (-3) := by decide
theorem cb_m4 : (Int8.ofInt (-4)).toInt32 = (-4) := by decide
theorem cb_m6 : (Int8.ofInt (-6)).toInt32 = (-6) := by decide
theorem cb_m9 : (Int8.ofInt (-9)).toInt32 = (-9) := by decide
theorem ci_0 : Int32.ofInt 0 = 0 := by decide
theorem ci_1 : Int32.ofInt 1 = 1 := by decide
theorem ci_2 : Int32.ofInt 2 = 2 := by decide
theorem ci_3 : Int32.ofInt 3 = 3 := by decide
theorem ci_4 : Int32.ofInt 4 = 4 := by decide
theorem ci_5 : Int32.ofInt 5 = 5 := by decide
theorem ci_m1 : Int32.ofInt (-1) = (-1) := by decide
theorem cs_1000 : (Int16.ofInt 1000).toInt32 = 1000 := by decide
theorem cs_840 : (Int16.ofInt 840).toInt32 = 840 := by decide
theorem cl2_136 : Cond.constantLong "TwoFliers$Odds" 136 2 ∈ sm_tb := sm_q3 114 rfl rfl
theorem cl2_89 : Cond.constantLong "TwoFliers$Odds" 89 12 ∈ sm_tb := sm_q3 101 rfl rfl
theorem cl5_16 : Cond.constantLong "TwoFliers$Ship" 16 (-1) ∈ sm_tb := sm_q1 173 rfl rfl
theorem cl7_295 : Cond.constant "TwoFliers" 295 2147483646 ∈ sm_tb := sm_q4 14 rfl rfl
theorem cl7_299 : Cond.constantLong "TwoFliers" 299 48271 ∈ sm_tb := sm_q4 15 rfl rfl
theorem cl7_301 : Cond.constantLong "TwoFliers" 301 2147483647 ∈ sm_tb := sm_q4 16 rfl rfl
theorem cl7_303 : Cond.constantLong "TwoFliers" 303 4 ∈ sm_tb := sm_q4 17 rfl rfl
theorem cl7_338 : Cond.constantLong "TwoFliers" 338 17 ∈ sm_tb := sm_q4 91 rfl rfl
theorem cl7_340 : Cond.constantLong "TwoFliers" 340 31 ∈ sm_tb := sm_q4 92 rfl rfl
theorem cl7_349 : Cond.constantLong "TwoFliers" 349 (-1) ∈ sm_tb := sm_q4 97 rfl rfl
theorem cl8_202 : Cond.constantLong "TwoFliersModel" 202 4 ∈ sm_tb := sm_q5 204 rfl rfl
theorem cl8_217 : Cond.constantLong "TwoFliersModel" 217 2 ∈ sm_tb := sm_q5 199 rfl rfl
theorem cl8_232 : Cond.constantLong "TwoFliersModel" 232 12 ∈ sm_tb := sm_q5 213 rfl rfl
theorem cl8_276 : Cond.constantLong "TwoFliersModel" 276 (-1) ∈ sm_tb := sm_q6 37 rfl rfl
theorem cl8_284 : Cond.constant "TwoFliersModel" 284 2147483646 ∈ sm_tb := sm_q6 59 rfl rfl
theorem cl8_285 : Cond.constantLong "TwoFliersModel" 285 48271 ∈ sm_tb := sm_q6 60 rfl rfl
theorem cl8_287 : Cond.constantLong "TwoFliersModel" 287 2147483647 ∈ sm_tb := sm_q6 61 rfl rfl
theorem cl8_298 : Cond.constantLong "TwoFliersModel" 298 31 ∈ sm_tb := sm_q6 115 rfl rfl
theorem cl8_306 : Cond.constantLong "TwoFliersModel" 306 17 ∈ sm_tb := sm_q6 110 rfl rfl
theorem clJ_265 : Cond.constant "java/lang/Integer" 265 1431655765 ∈ sm_tb := sm_q4 73 rfl rfl
theorem clJ_266 : Cond.constant "java/lang/Integer" 266 858993459 ∈ sm_tb := sm_q4 74 rfl rfl
theorem clJ_267 : Cond.constant "java/lang/Integer" 267 252645135 ∈ sm_tb := sm_q4 75 rfl rfl
theorem fl0_13 : sm_fl "TwoFliers$Book" 13 0 0 := ⟨by decide, by decide, sm_q1 95 rfl rfl⟩
theorem fl0_17 : sm_fl "TwoFliers$Book" 17 0 1 := ⟨by decide, by decide, sm_q1 98 rfl rfl⟩
theorem fl0_40 : sm_fl "TwoFliers$Book" 40 5 4 := ⟨by decide, by decide, sm_q1 82 rfl rfl⟩
theorem fl1_21 : Cond.fieldLink "TwoFliers$Chart" 21 "TwoFliers$Chart" "STEP_X" "[I" ∈ sm_tb := sm_q2 152 rfl rfl
theorem fl1_25 : Cond.fieldLink "TwoFliers$Chart" 25 "TwoFliers$Chart" "STEP_Y" "[I" ∈ sm_tb := sm_q2 154 rfl rfl
theorem fl2_100 : sm_fl "TwoFliers$Odds" 100 2 0 := ⟨by decide, by decide, sm_q1 39 rfl rfl⟩
theorem fl2_115 : sm_fl "TwoFliers$Odds" 115 2 2 := ⟨by decide, by decide, sm_q1 45 rfl rfl⟩
theorem fl2_12 : sm_fl "TwoFliers$Odds" 12 1 0 := ⟨by decide, by decide, sm_q1 107 rfl rfl⟩
theorem fl2_124 : sm_fl "TwoFliers$Odds" 124 5 1 := ⟨by decide, by decide, sm_q1 78 rfl rfl⟩
theorem fl2_21 : sm_fl "TwoFliers$Odds" 21 1 1 := ⟨by decide, by decide, sm_q1 109 rfl rfl⟩
theorem fl2_29 : sm_fl "TwoFliers$Odds" 29 1 2 := ⟨by decide, by decide, sm_q1 111 rfl rfl⟩
theorem fl2_32 : sm_fl "TwoFliers$Odds" 32 1 3 := ⟨by decide, by decide, sm_q1 113 rfl rfl⟩
theorem fl2_36 : sm_fl "TwoFliers$Odds" 36 1 4 := ⟨by decide, by decide, sm_q1 115 rfl rfl⟩
theorem fl2_39 : sm_fl "TwoFliers$Odds" 39 1 5 := ⟨by decide, by decide, sm_q1 117 rfl rfl⟩
theorem fl2_43 : sm_fl "TwoFliers$Odds" 43 1 6 := ⟨by decide, by decide, sm_q1 119 rfl rfl⟩
theorem fl2_46 : sm_fl "TwoFliers$Odds" 46 1 7 := ⟨by decide, by decide, sm_q1 120 rfl rfl⟩
theorem fl2_57 : sm_fl "TwoFliers$Odds" 57 2 1 := ⟨by decide, by decide, sm_q1 42 rfl rfl⟩
theorem fl2_61 : sm_fl "TwoFliers$Odds" 61 2 3 := ⟨by decide, by decide, sm_q1 48 rfl rfl⟩
theorem fl2_69 : sm_fl "TwoFliers$Odds" 69 0 0 := ⟨by decide, by decide, sm_q1 96 rfl rfl⟩
theorem fl2_79 : sm_fl "TwoFliers$Odds" 79 0 1 := ⟨by decide, by decide, sm_q1 99 rfl rfl⟩
theorem fl2_86 : sm_fl "TwoFliers$Odds" 86 5 0 := ⟨by decide, by decide, sm_q1 75 rfl rfl⟩
theorem fl3_15 : sm_fl "TwoFliers$Plane" 15 2 1 := ⟨by decide, by decide, sm_q1 41 rfl rfl⟩
theorem fl3_18 : sm_fl "TwoFliers$Plane" 18 2 2 := ⟨by decide, by decide, sm_q1 44 rfl rfl⟩
theorem fl3_22 : sm_fl "TwoFliers$Plane" 22 2 3 := ⟨by decide, by decide, sm_q1 47 rfl rfl⟩
theorem fl3_9 : sm_fl "TwoFliers$Plane" 9 2 0 := ⟨by decide, by decide, sm_q1 38 rfl rfl⟩
theorem fl4_15 : sm_fl "TwoFliers$Reader" 15 3 1 := ⟨by decide, by decide, sm_q1 146 rfl rfl⟩
theorem fl4_19 : sm_fl "TwoFliers$Reader" 19 3 2 := ⟨by decide, by decide, sm_q1 147 rfl rfl⟩
theorem fl4_22 : sm_fl "TwoFliers$Reader" 22 3 3 := ⟨by decide, by decide, sm_q1 148 rfl rfl⟩
theorem fl4_27 : sm_fl "TwoFliers$Reader" 27 3 4 := ⟨by decide, by decide, sm_q1 149 rfl rfl⟩
theorem fl4_31 : sm_fl "TwoFliers$Reader" 31 3 5 := ⟨by decide, by decide, sm_q1 151 rfl rfl⟩
theorem fl4_9 : sm_fl "TwoFliers$Reader" 9 3 0 := ⟨by decide, by decide, sm_q1 145 rfl rfl⟩
theorem fl5_13 : sm_fl "TwoFliers$Ship" 13 4 1 := ⟨by decide, by decide, sm_q1 176 rfl rfl⟩
theorem fl5_18 : sm_fl "TwoFliers$Ship" 18 4 2 := ⟨by decide, by decide, sm_q1 177 rfl rfl⟩
theorem fl5_22 : sm_fl "TwoFliers$Ship" 22 4 3 := ⟨by decide, by decide, sm_q1 178 rfl rfl⟩
theorem fl5_9 : sm_fl "TwoFliers$Ship" 9 4 0 := ⟨by decide, by decide, sm_q1 174 rfl rfl⟩
theorem fl6_11 : sm_fl "TwoFliers$Sign" 11 5 0 := ⟨by decide, by decide, sm_q1 74 rfl rfl⟩
theorem fl6_15 : sm_fl "TwoFliers$Sign" 15 5 1 := ⟨by decide, by decide, sm_q1 77 rfl rfl⟩
theorem fl6_18 : sm_fl "TwoFliers$Sign" 18 5 2 := ⟨by decide, by decide, sm_q1 79 rfl rfl⟩
theorem fl6_21 : sm_fl "TwoFliers$Sign" 21 5 3 := ⟨by decide, by decide, sm_q1 80 rfl rfl⟩
theorem fl6_24 : sm_fl "TwoFliers$Sign" 24 5 4 := ⟨by decide, by decide, sm_q1 81 rfl rfl⟩
theorem fl7_11 : sm_fl "TwoFliers" 11 6 0 := ⟨by decide, by decide, sm_q1 191 rfl rfl⟩
theorem fl7_134 : sm_fl "TwoFliers" 134 2 1 := ⟨by decide, by decide, sm_q1 43 rfl rfl⟩
theorem fl7_14 : sm_fl "TwoFliers" 14 6 1 := ⟨by decide, by decide, sm_q1 192 rfl rfl⟩
theorem fl7_141 : sm_fl "TwoFliers" 141 2 3 := ⟨by decide, by decide, sm_q1 49 rfl rfl⟩
theorem fl7_144 : sm_fl "TwoFliers" 144 2 2 := ⟨by decide, by decide, sm_q1 46 rfl rfl⟩
theorem fl7_154 : sm_fl "TwoFliers" 154 3 4 := ⟨by decide, by decide, sm_q1 150 rfl rfl⟩
theorem fl7_157 : sm_fl "TwoFliers" 157 3 5 := ⟨by decide, by decide, sm_q1 152 rfl rfl⟩
theorem fl7_175 : sm_fl "TwoFliers" 175 0 1 := ⟨by decide, by decide, sm_q1 100 rfl rfl⟩
theorem fl7_187 : sm_fl "TwoFliers" 187 0 0 := ⟨by decide, by decide, sm_q1 97 rfl rfl⟩
theorem fl7_191 : sm_fl "TwoFliers" 191 5 4 := ⟨by decide, by decide, sm_q1 83 rfl rfl⟩
theorem fl7_20 : sm_fl "TwoFliers" 20 6 2 := ⟨by decide, by decide, sm_q1 193 rfl rfl⟩
theorem fl7_202 : sm_fl "TwoFliers" 202 5 0 := ⟨by decide, by decide, sm_q1 76 rfl rfl⟩
theorem fl7_220 : sm_fl "TwoFliers" 220 1 3 := ⟨by decide, by decide, sm_q1 114 rfl rfl⟩
theorem fl7_223 : sm_fl "TwoFliers" 223 1 5 := ⟨by decide, by decide, sm_q1 118 rfl rfl⟩
theorem fl7_23 : sm_fl "TwoFliers" 23 6 3 := ⟨by decide, by decide, sm_q1 194 rfl rfl⟩
theorem fl7_238 : sm_fl "TwoFliers" 238 1 4 := ⟨by decide, by decide, sm_q1 116 rfl rfl⟩
theorem fl7_280 : sm_fl "TwoFliers" 280 4 0 := ⟨by decide, by decide, sm_q1 175 rfl rfl⟩
theorem fl7_29 : sm_fl "TwoFliers" 29 6 4 := ⟨by decide, by decide, sm_q1 195 rfl rfl⟩
theorem fl7_296 : sm_fl "TwoFliers" 296 2 0 := ⟨by decide, by decide, sm_q1 40 rfl rfl⟩
theorem fl7_37 : sm_fl "TwoFliers" 37 6 5 := ⟨by decide, by decide, sm_q1 196 rfl rfl⟩
theorem fl7_42 : sm_fl "TwoFliers" 42 6 6 := ⟨by decide, by decide, sm_q1 197 rfl rfl⟩
theorem fl7_46 : sm_fl "TwoFliers" 46 6 7 := ⟨by decide, by decide, sm_q1 198 rfl rfl⟩
theorem fl7_47 : sm_fl "TwoFliers" 47 6 8 := ⟨by decide, by decide, sm_q1 199 rfl rfl⟩
theorem fl7_54 : sm_fl "TwoFliers" 54 6 9 := ⟨by decide, by decide, sm_q1 200 rfl rfl⟩
theorem fl7_61 : sm_fl "TwoFliers" 61 6 10 := ⟨by decide, by decide, sm_q1 201 rfl rfl⟩
theorem fl7_65 : sm_fl "TwoFliers" 65 6 11 := ⟨by decide, by decide, sm_q1 202 rfl rfl⟩
theorem fl7_69 : sm_fl "TwoFliers" 69 6 12 := ⟨by decide, by decide, sm_q1 203 rfl rfl⟩
theorem fl7_73 : sm_fl "TwoFliers" 73 6 13 := ⟨by decide, by decide, sm_q1 204 rfl rfl⟩
theorem fl7_76 : sm_fl "TwoFliers" 76 6 14 := ⟨by decide, by decide, sm_q1 205 rfl rfl⟩
theorem fl7_79 : sm_fl "TwoFliers" 79 6 15 := ⟨by decide, by decide, sm_q1 206 rfl rfl⟩
theorem fl8_13 : sm_fl "TwoFliersModel" 13 7 4 := ⟨by decide, by decide, sm_q4 108 rfl rfl⟩
theorem fl8_136 : sm_fl "TwoFliersModel" 136 7 14 := ⟨by decide, by decide, sm_q4 118 rfl rfl⟩
theorem fl8_142 : sm_fl "TwoFliersModel" 142 7 15 := ⟨by decide, by decide, sm_q4 119 rfl rfl⟩
theorem fl8_152 : sm_fl "TwoFliersModel" 152 7 16 := ⟨by decide, by decide, sm_q4 120 rfl rfl⟩
theorem fl8_161 : sm_fl "TwoFliersModel" 161 7 17 := ⟨by decide, by decide, sm_q4 121 rfl rfl⟩
theorem fl8_17 : sm_fl "TwoFliersModel" 17 7 5 := ⟨by decide, by decide, sm_q4 109 rfl rfl⟩
theorem fl8_20 : sm_fl "TwoFliersModel" 20 7 6 := ⟨by decide, by decide, sm_q4 110 rfl rfl⟩
theorem fl8_222 : sm_fl "TwoFliersModel" 222 7 23 := ⟨by decide, by decide, sm_q4 127 rfl rfl⟩
theorem fl8_23 : sm_fl "TwoFliersModel" 23 7 7 := ⟨by decide, by decide, sm_q4 111 rfl rfl⟩
theorem fl8_26 : sm_fl "TwoFliersModel" 26 7 8 := ⟨by decide, by decide, sm_q4 112 rfl rfl⟩
theorem fl8_266 : sm_fl "TwoFliersModel" 266 7 26 := ⟨by decide, by decide, sm_q4 130 rfl rfl⟩
theorem fl8_269 : sm_fl "TwoFliersModel" 269 7 27 := ⟨by decide, by decide, sm_q4 131 rfl rfl⟩
theorem fl8_29 : sm_fl "TwoFliersModel" 29 7 9 := ⟨by decide, by decide, sm_q4 113 rfl rfl⟩
theorem fl8_300 : sm_fl "TwoFliersModel" 300 7 29 := ⟨by decide, by decide, sm_q4 133 rfl rfl⟩
theorem fl8_32 : sm_fl "TwoFliersModel" 32 7 10 := ⟨by decide, by decide, sm_q4 114 rfl rfl⟩
theorem fl8_35 : sm_fl "TwoFliersModel" 35 7 11 := ⟨by decide, by decide, sm_q4 115 rfl rfl⟩
theorem fl8_39 : sm_fl "TwoFliersModel" 39 7 12 := ⟨by decide, by decide, sm_q4 116 rfl rfl⟩
theorem fl8_42 : sm_fl "TwoFliersModel" 42 7 13 := ⟨by decide, by decide, sm_q4 117 rfl rfl⟩
theorem fl8_45 : sm_fl "TwoFliersModel" 45 7 18 := ⟨by decide, by decide, sm_q4 122 rfl rfl⟩
theorem fl8_48 : sm_fl "TwoFliersModel" 48 7 19 := ⟨by decide, by decide, sm_q4 123 rfl rfl⟩
theorem fl8_52 : sm_fl "TwoFliersModel" 52 7 20 := ⟨by decide, by decide, sm_q4 124 rfl rfl⟩
theorem fl8_56 : sm_fl "TwoFliersModel" 56 7 21 := ⟨by decide, by decide, sm_q4 125 rfl rfl⟩
theorem fl8_59 : sm_fl "TwoFliersModel" 59 7 22 := ⟨by decide, by decide, sm_q4 126 rfl rfl⟩
theorem fl8_62 : sm_fl "TwoFliersModel" 62 7 24 := ⟨by decide, by decide, sm_q4 128 rfl rfl⟩
theorem fl8_65 : sm_fl "TwoFliersModel" 65 7 25 := ⟨by decide, by decide, sm_q4 129 rfl rfl⟩
theorem fl8_68 : sm_fl "TwoFliersModel" 68 7 28 := ⟨by decide, by decide, sm_q4 132 rfl rfl⟩
theorem fl8_7 : sm_fl "TwoFliersModel" 7 7 1 := ⟨by decide, by decide, sm_q4 105 rfl rfl⟩
theorem fl8_71 : sm_fl "TwoFliersModel" 71 7 0 := ⟨by decide, by decide, sm_q4 104 rfl rfl⟩
theorem fl8_74 : sm_fl "TwoFliersModel" 74 7 2 := ⟨by decide, by decide, sm_q4 106 rfl rfl⟩
theorem fl8_77 : sm_fl "TwoFliersModel" 77 7 3 := ⟨by decide, by decide, sm_q4 107 rfl rfl⟩
theorem ml0_22 : Cond.methodLink "TwoFliers$Book" 22 ⟨"TwoFliers$Sign", "become", "(IIII)V"⟩ ∈ sm_tb := sm_q2 190 rfl rfl
theorem ml0_26 : Cond.methodLink "TwoFliers$Book" 26 ⟨"TwoFliers$Sign", "counts", "()Z"⟩ ∈ sm_tb := sm_q3 60 rfl rfl
theorem ml0_30 : Cond.methodLink "TwoFliers$Book" 30 ⟨"TwoFliers$Sign", "is", "(I)Z"⟩ ∈ sm_tb := sm_q4 69 rfl rfl
theorem ml0_34 : Cond.methodLink "TwoFliers$Book" 34 ⟨"TwoFliers$Sign", "isTrueVoice", "()Z"⟩ ∈ sm_tb := sm_q3 178 rfl rfl
theorem ml0_37 : Cond.methodLink "TwoFliers$Book" 37 ⟨"TwoFliers$Sign", "isFrom", "(I)Z"⟩ ∈ sm_tb := sm_q3 186 rfl rfl
theorem ml1_28 : Cond.methodLink "TwoFliers$Chart" 28 ⟨"TwoFliers$Chart", "beside", "(II)I"⟩ ∈ sm_tb := sm_q3 113 rfl rfl
theorem ml2_103 : Cond.methodLink "TwoFliers$Odds" 103 ⟨"TwoFliers$Odds", "weighByHour", "(II)V"⟩ ∈ sm_tb := sm_q3 75 rfl rfl
theorem ml2_107 : Cond.methodLink "TwoFliers$Odds" 107 ⟨"TwoFliers$Odds", "keepOnly", "(I)V"⟩ ∈ sm_tb := sm_q3 89 rfl rfl
theorem ml2_111 : Cond.methodLink "TwoFliers$Odds" 111 ⟨"TwoFliers$Odds", "land", "(II)J"⟩ ∈ sm_tb := sm_q3 93 rfl rfl
theorem ml2_118 : Cond.methodLink "TwoFliers$Odds" 118 ⟨"TwoFliers$Odds", "spread", "(I)V"⟩ ∈ sm_tb := sm_q3 106 rfl rfl
theorem ml2_121 : Cond.methodLink "TwoFliers$Odds" 121 ⟨"TwoFliers$Sign", "isByHour", "()Z"⟩ ∈ sm_tb := sm_q3 84 rfl rfl
theorem ml2_127 : Cond.methodLink "TwoFliers$Odds" 127 ⟨"TwoFliers$Odds", "weightByEnd", "(II)J"⟩ ∈ sm_tb := sm_q3 97 rfl rfl
theorem ml2_130 : Cond.methodLink "TwoFliers$Odds" 130 ⟨"TwoFliers$Odds", "weightAtLast", "(II)J"⟩ ∈ sm_tb := sm_q3 102 rfl rfl
theorem ml2_133 : Cond.methodLink "TwoFliers$Odds" 133 ⟨"TwoFliers$Chart", "gone", "(II)I"⟩ ∈ sm_tb := sm_q3 110 rfl rfl
theorem ml2_138 : Cond.methodLink "TwoFliers$Odds" 138 ⟨"TwoFliers$Chart", "turned", "(II)I"⟩ ∈ sm_tb := sm_q3 115 rfl rfl
theorem ml2_49 : Cond.methodLink "TwoFliers$Odds" 49 ⟨"TwoFliers$Odds", "weighFlight", "(III)J"⟩ ∈ sm_tb := sm_q3 68 rfl rfl
theorem ml2_53 : Cond.methodLink "TwoFliers$Odds" 53 ⟨"TwoFliers$Odds", "weighText", "([II)J"⟩ ∈ sm_tb := sm_q3 118 rfl rfl
theorem ml2_65 : Cond.methodLink "TwoFliers$Odds" 65 ⟨"TwoFliers$Chart", "beside", "(II)I"⟩ ∈ sm_tb := sm_q3 204 rfl rfl
theorem ml2_73 : Cond.methodLink "TwoFliers$Odds" 73 ⟨"TwoFliers$Sign", "counts", "()Z"⟩ ∈ sm_tb := sm_q3 83 rfl rfl
theorem ml2_82 : Cond.methodLink "TwoFliers$Odds" 82 ⟨"TwoFliers$Odds", "weighsIn", "(II)Z"⟩ ∈ sm_tb := sm_q3 79 rfl rfl
theorem ml2_91 : Cond.methodLink "TwoFliers$Odds" 91 ⟨"TwoFliers$Sign", "weight", "(I)I"⟩ ∈ sm_tb := sm_q3 88 rfl rfl
theorem ml2_94 : Cond.methodLink "TwoFliers$Odds" 94 ⟨"java/util/Arrays", "fill", "([JJ)V"⟩ ∈ sm_tb := sm_q3 72 rfl rfl
theorem ml3_31 : Cond.methodLink "TwoFliers$Plane" 31 ⟨"java/util/Arrays", "fill", "([II)V"⟩ ∈ sm_tb := sm_q2 74 rfl rfl
theorem ml3_37 : Cond.methodLink "TwoFliers$Plane" 37 ⟨"TwoFliers$Chart", "isCell", "(I)Z"⟩ ∈ sm_tb := sm_q4 34 rfl rfl
theorem ml3_43 : ("TwoFliers$Plane", 43, (⟨"TwoFliers", "isWithin", "(II)Z"⟩ : MethodName), "TwoFliers") ∈ sm_nl := by decide +kernel
theorem ml3_47 : Cond.methodLink "TwoFliers$Plane" 47 ⟨"TwoFliers$Chart", "isSide", "(I)Z"⟩ ∈ sm_tb := sm_q4 36 rfl rfl
theorem ml3_50 : Cond.methodLink "TwoFliers$Plane" 50 ⟨"TwoFliers$Chart", "apart", "(II)I"⟩ ∈ sm_tb := sm_q3 236 rfl rfl
theorem ml3_54 : Cond.methodLink "TwoFliers$Plane" 54 ⟨"TwoFliers$Chart", "gone", "(II)I"⟩ ∈ sm_tb := sm_q3 237 rfl rfl
theorem ml3_57 : Cond.methodLink "TwoFliers$Plane" 57 ⟨"TwoFliers$Plane", "comesIn", "(IIII)Z"⟩ ∈ sm_tb := sm_q4 2 rfl rfl
theorem ml3_61 : Cond.methodLink "TwoFliers$Plane" 61 ⟨"TwoFliers$Plane", "toldAs", "(I)I"⟩ ∈ sm_tb := sm_q4 3 rfl rfl
theorem ml4_34 : Cond.methodLink "TwoFliers$Reader" 34 ⟨"java/util/Arrays", "fill", "([II)V"⟩ ∈ sm_tb := sm_q2 102 rfl rfl
theorem ml4_40 : Cond.methodLink "TwoFliers$Reader" 40 ⟨"TwoFliers$Reader", "skipBlanks", "()V"⟩ ∈ sm_tb := sm_q2 103 rfl rfl
theorem ml4_43 : Cond.methodLink "TwoFliers$Reader" 43 ⟨"TwoFliers$Reader", "readItem", "()V"⟩ ∈ sm_tb := sm_q2 107 rfl rfl
theorem ml4_46 : Cond.methodLink "TwoFliers$Reader" 46 ⟨"TwoFliers$Reader", "take", "(I)V"⟩ ∈ sm_tb := sm_q2 111 rfl rfl
theorem ml4_50 : Cond.methodLink "TwoFliers$Reader" 50 ⟨"TwoFliers$Reader", "takeNumber", "(I)I"⟩ ∈ sm_tb := sm_q2 115 rfl rfl
theorem ml4_54 : Cond.methodLink "TwoFliers$Reader" 54 ⟨"TwoFliers$Reader", "readRound", "()V"⟩ ∈ sm_tb := sm_q2 127 rfl rfl
theorem ml4_57 : Cond.methodLink "TwoFliers$Reader" 57 ⟨"TwoFliers$Reader", "readLine", "()V"⟩ ∈ sm_tb := sm_q2 145 rfl rfl
theorem ml4_60 : Cond.methodLink "TwoFliers$Reader" 60 ⟨"TwoFliers$Reader", "takeCell", "()I"⟩ ∈ sm_tb := sm_q2 131 rfl rfl
theorem ml4_64 : Cond.methodLink "TwoFliers$Reader" 64 ⟨"TwoFliers$Reader", "takeFigure", "(I)I"⟩ ∈ sm_tb := sm_q2 119 rfl rfl
theorem ml4_67 : Cond.methodLink "TwoFliers$Reader" 67 ⟨"TwoFliers$Chart", "apart", "(II)I"⟩ ∈ sm_tb := sm_q2 136 rfl rfl
theorem ml4_71 : Cond.methodLink "TwoFliers$Reader" 71 ⟨"TwoFliers$Chart", "beside", "(II)I"⟩ ∈ sm_tb := sm_q2 149 rfl rfl
theorem ml4_74 : Cond.methodLink "TwoFliers$Reader" 74 ⟨"TwoFliers$Chart", "isCell", "(I)Z"⟩ ∈ sm_tb := sm_q2 135 rfl rfl
theorem ml4_78 : Cond.methodLink "TwoFliers$Reader" 78 ⟨"TwoFliers$Reader", "isFigure", "(I)Z"⟩ ∈ sm_tb := sm_q2 123 rfl rfl
theorem ml5_26 : Cond.methodLink "TwoFliers$Ship" 26 ⟨"TwoFliers$Ship", "sail", "(LTwoFliers$Ship;[JJIJ)V"⟩ ∈ sm_tb := sm_q3 216 rfl rfl
theorem ml5_44 : Cond.methodLink "TwoFliers$Ship" 44 ⟨"TwoFliers$Ship", "wasIn", "([III)Z"⟩ ∈ sm_tb := sm_q3 221 rfl rfl
theorem ml6_30 : ("TwoFliers$Sign", 30, (⟨"TwoFliers", "isWithin", "(II)Z"⟩ : MethodName), "TwoFliers") ∈ sm_nl := by decide +kernel
theorem ml6_34 : Cond.methodLink "TwoFliers$Sign" 34 ⟨"TwoFliers$Chart", "isCell", "(I)Z"⟩ ∈ sm_tb := sm_q2 184 rfl rfl
theorem ml6_40 : Cond.methodLink "TwoFliers$Sign" 40 ⟨"TwoFliers$Chart", "isSide", "(I)Z"⟩ ∈ sm_tb := sm_q2 185 rfl rfl
theorem ml6_43 : Cond.methodLink "TwoFliers$Sign" 43 ⟨"TwoFliers$Chart", "sideOn", "(II)I"⟩ ∈ sm_tb := sm_q3 27 rfl rfl
theorem ml6_47 : Cond.methodLink "TwoFliers$Sign" 47 ⟨"TwoFliers$Chart", "apart", "(II)I"⟩ ∈ sm_tb := sm_q3 16 rfl rfl
theorem ml6_50 : Cond.methodLink "TwoFliers$Sign" 50 ⟨"TwoFliers$Sign", "heardWeight", "(II)I"⟩ ∈ sm_tb := sm_q2 229 rfl rfl
theorem ml6_53 : Cond.methodLink "TwoFliers$Sign" 53 ⟨"TwoFliers$Sign", "fixedWeight", "(II)I"⟩ ∈ sm_tb := sm_q3 17 rfl rfl
theorem ml6_62 : Cond.methodLink "TwoFliers$Sign" 62 ⟨"TwoFliers$Sign", "burntWeight", "(I)I"⟩ ∈ sm_tb := sm_q3 20 rfl rfl
theorem ml6_65 : Cond.methodLink "TwoFliers$Sign" 65 ⟨"TwoFliers$Sign", "saw", "(I)Z"⟩ ∈ sm_tb := sm_q2 238 rfl rfl
theorem ml6_68 : Cond.methodLink "TwoFliers$Sign" 68 ⟨"TwoFliers$Sign", "isFrom", "(I)Z"⟩ ∈ sm_tb := sm_q3 23 rfl rfl
theorem ml6_74 : Cond.methodLink "TwoFliers$Sign" 74 ⟨"TwoFliers$Sign", "isBetween", "(III)Z"⟩ ∈ sm_tb := sm_q3 2 rfl rfl
theorem ml6_81 : Cond.methodLink "TwoFliers$Sign" 81 ⟨"TwoFliers$Sign", "nearestHeard", "(I)I"⟩ ∈ sm_tb := sm_q2 226 rfl rfl
theorem ml6_84 : Cond.methodLink "TwoFliers$Sign" 84 ⟨"TwoFliers$Sign", "cellsSeen", "()I"⟩ ∈ sm_tb := sm_q2 234 rfl rfl
theorem ml6_88 : Cond.methodLink "TwoFliers$Sign" 88 ⟨"TwoFliers$Sign", "cellsOfFullWeight", "()I"⟩ ∈ sm_tb := sm_q3 8 rfl rfl
theorem ml6_91 : Cond.methodLink "TwoFliers$Sign" 91 ⟨"TwoFliers$Sign", "weight", "(I)I"⟩ ∈ sm_tb := sm_q3 12 rfl rfl
theorem ml7_100 : Cond.methodLink "TwoFliers" 100 ⟨"TwoFliers", "barredPlace", "(II)I"⟩ ∈ sm_tb := sm_q2 19 rfl rfl
theorem ml7_104 : Cond.methodLink "TwoFliers" 104 ⟨"TwoFliers", "holds", "(III)Z"⟩ ∈ sm_tb := sm_q2 35 rfl rfl
theorem ml7_114 : Cond.methodLink "TwoFliers" 114 ⟨"TwoFliers", "isText", "(I)Z"⟩ ∈ sm_tb := sm_q2 49 rfl rfl
theorem ml7_117 : Cond.methodLink "TwoFliers" 117 ⟨"java/util/Arrays", "fill", "([BB)V"⟩ ∈ sm_tb := sm_q2 52 rfl rfl
theorem ml7_120 : Cond.methodLink "TwoFliers" 120 ⟨"TwoFliers$Chart", "isCell", "(I)Z"⟩ ∈ sm_tb := sm_q2 63 rfl rfl
theorem ml7_127 : Cond.methodLink "TwoFliers" 127 ⟨"TwoFliers$Chart", "isSide", "(I)Z"⟩ ∈ sm_tb := sm_q2 66 rfl rfl
theorem ml7_130 : Cond.methodLink "TwoFliers" 130 ⟨"TwoFliers$Plane", "begin", "(I[II)V"⟩ ∈ sm_tb := sm_q2 69 rfl rfl
theorem ml7_137 : Cond.methodLink "TwoFliers" 137 ⟨"TwoFliers", "isWithin", "(II)Z"⟩ ∈ sm_tb := sm_q2 79 rfl rfl
theorem ml7_147 : Cond.methodLink "TwoFliers" 147 ⟨"TwoFliers$Plane", "number", "(I)I"⟩ ∈ sm_tb := sm_q2 90 rfl rfl
theorem ml7_150 : Cond.methodLink "TwoFliers" 150 ⟨"TwoFliers$Reader", "read", "([BI)I"⟩ ∈ sm_tb := sm_q2 98 rfl rfl
theorem ml7_160 : Cond.methodLink "TwoFliers" 160 ⟨"TwoFliers", "isMissing", "(I)Z"⟩ ∈ sm_tb := sm_q2 164 rfl rfl
theorem ml7_163 : Cond.methodLink "TwoFliers" 163 ⟨"TwoFliers$Chart", "sideOn", "(II)I"⟩ ∈ sm_tb := sm_q2 172 rfl rfl
theorem ml7_166 : Cond.methodLink "TwoFliers" 166 ⟨"TwoFliers$Chart", "apart", "(II)I"⟩ ∈ sm_tb := sm_q2 175 rfl rfl
theorem ml7_169 : Cond.methodLink "TwoFliers" 169 ⟨"TwoFliers$Sign", "fits", "(IIII)Z"⟩ ∈ sm_tb := sm_q2 180 rfl rfl
theorem ml7_180 : Cond.methodLink "TwoFliers" 180 ⟨"TwoFliers$Book", "add", "(IIII)I"⟩ ∈ sm_tb := sm_q2 186 rfl rfl
theorem ml7_184 : Cond.methodLink "TwoFliers" 184 ⟨"TwoFliers$Book", "has", "(I)Z"⟩ ∈ sm_tb := sm_q2 202 rfl rfl
theorem ml7_195 : Cond.methodLink "TwoFliers" 195 ⟨"TwoFliers$Sign", "number", "(I)I"⟩ ∈ sm_tb := sm_q2 210 rfl rfl
theorem ml7_196 : Cond.methodLink "TwoFliers" 196 ⟨"TwoFliers$Sign", "is", "(I)Z"⟩ ∈ sm_tb := sm_q2 218 rfl rfl
theorem ml7_199 : Cond.methodLink "TwoFliers" 199 ⟨"TwoFliers$Sign", "tells", "(I)I"⟩ ∈ sm_tb := sm_q2 222 rfl rfl
theorem ml7_205 : Cond.methodLink "TwoFliers" 205 ⟨"TwoFliers$Sign", "weight", "(I)I"⟩ ∈ sm_tb := sm_q3 32 rfl rfl
theorem ml7_208 : Cond.methodLink "TwoFliers" 208 ⟨"TwoFliers$Sign", "farthestHeard", "(I)I"⟩ ∈ sm_tb := sm_q3 37 rfl rfl
theorem ml7_211 : Cond.methodLink "TwoFliers" 211 ⟨"TwoFliers$Sign", "nearestHeard", "(I)I"⟩ ∈ sm_tb := sm_q3 40 rfl rfl
theorem ml7_214 : Cond.methodLink "TwoFliers" 214 ⟨"TwoFliers", "isStory", "(I)Z"⟩ ∈ sm_tb := sm_q3 45 rfl rfl
theorem ml7_217 : Cond.methodLink "TwoFliers" 217 ⟨"TwoFliers", "weighed", "(I)I"⟩ ∈ sm_tb := sm_q3 48 rfl rfl
theorem ml7_226 : Cond.methodLink "TwoFliers" 226 ⟨"TwoFliers", "fraction", "(JJ)V"⟩ ∈ sm_tb := sm_q3 122 rfl rfl
theorem ml7_230 : Cond.methodLink "TwoFliers" 230 ⟨"TwoFliers$Odds", "greatest", "()I"⟩ ∈ sm_tb := sm_q3 136 rfl rfl
theorem ml7_234 : Cond.methodLink "TwoFliers" 234 ⟨"TwoFliers$Odds", "weighThrough", "(II)J"⟩ ∈ sm_tb := sm_q3 148 rfl rfl
theorem ml7_241 : Cond.methodLink "TwoFliers" 241 ⟨"TwoFliers", "barred", "(II)I"⟩ ∈ sm_tb := sm_q3 52 rfl rfl
theorem ml7_244 : Cond.methodLink "TwoFliers" 244 ⟨"TwoFliers$Odds", "weigh", "(II)J"⟩ ∈ sm_tb := sm_q3 64 rfl rfl
theorem ml7_247 : Cond.methodLink "TwoFliers" 247 ⟨"TwoFliers$Sign", "counts", "()Z"⟩ ∈ sm_tb := sm_q3 164 rfl rfl
theorem ml7_251 : Cond.methodLink "TwoFliers" 251 ⟨"TwoFliers$Sign", "isFrom", "(I)Z"⟩ ∈ sm_tb := sm_q3 169 rfl rfl
theorem ml7_254 : Cond.methodLink "TwoFliers" 254 ⟨"TwoFliers$Book", "anyTrueVoice", "()Z"⟩ ∈ sm_tb := sm_q3 174 rfl rfl
theorem ml7_257 : Cond.methodLink "TwoFliers" 257 ⟨"TwoFliers$Book", "trueVoicesFrom", "(I)I"⟩ ∈ sm_tb := sm_q3 182 rfl rfl
theorem ml7_260 : Cond.methodLink "TwoFliers" 260 ⟨"TwoFliers$Book", "busy", "()I"⟩ ∈ sm_tb := sm_q3 56 rfl rfl
theorem ml7_263 : Cond.methodLink "TwoFliers" 263 ⟨"TwoFliers$Odds", "bare", "(I)J"⟩ ∈ sm_tb := sm_q3 191 rfl rfl
theorem ml7_267 : Cond.methodLink "TwoFliers" 267 ⟨"TwoFliers$Chart", "turned", "(II)I"⟩ ∈ sm_tb := sm_q3 199 rfl rfl
theorem ml7_270 : Cond.methodLink "TwoFliers" 270 ⟨"TwoFliers$Odds", "weightBehind", "(II)J"⟩ ∈ sm_tb := sm_q3 200 rfl rfl
theorem ml7_273 : Cond.methodLink "TwoFliers" 273 ⟨"TwoFliers$Chart", "manyBehind", "(II)I"⟩ ∈ sm_tb := sm_q3 205 rfl rfl
theorem ml7_276 : Cond.methodLink "TwoFliers" 276 ⟨"TwoFliers$Ship", "search", "([JJII)J"⟩ ∈ sm_tb := sm_q3 212 rfl rfl
theorem ml7_283 : Cond.methodLink "TwoFliers" 283 ⟨"TwoFliers$Ship", "unlikeCells", "(I)I"⟩ ∈ sm_tb := sm_q3 224 rfl rfl
theorem ml7_286 : Cond.methodLink "TwoFliers" 286 ⟨"TwoFliers$Plane", "comesIn", "(IIII)Z"⟩ ∈ sm_tb := sm_q3 232 rfl rfl
theorem ml7_289 : Cond.methodLink "TwoFliers" 289 ⟨"TwoFliers$Plane", "firstChange", "(II)I"⟩ ∈ sm_tb := sm_q3 238 rfl rfl
theorem ml7_292 : Cond.methodLink "TwoFliers" 292 ⟨"TwoFliers$Plane", "firstTwoChanges", "(II)I"⟩ ∈ sm_tb := sm_q4 6 rfl rfl
theorem ml7_305 : Cond.methodLink "TwoFliers" 305 ⟨"TwoFliers$Chart", "gone", "(II)I"⟩ ∈ sm_tb := sm_q4 18 rfl rfl
theorem ml7_308 : Cond.methodLink "TwoFliers" 308 ⟨"TwoFliers$Book", "undoneBits", "()I"⟩ ∈ sm_tb := sm_q4 23 rfl rfl
theorem ml7_311 : Cond.methodLink "TwoFliers" 311 ⟨"TwoFliers$Plane", "couldTell", "([I)Z"⟩ ∈ sm_tb := sm_q4 31 rfl rfl
theorem ml7_315 : Cond.methodLink "TwoFliers" 315 ⟨"TwoFliers$Plane", "goOn", "([I)V"⟩ ∈ sm_tb := sm_q4 37 rfl rfl
theorem ml7_319 : Cond.methodLink "TwoFliers" 319 ⟨"TwoFliers$Book", "undoBits", "(I)V"⟩ ∈ sm_tb := sm_q4 41 rfl rfl
theorem ml7_323 : Cond.methodLink "TwoFliers" 323 ⟨"TwoFliers", "storiesThere", "()I"⟩ ∈ sm_tb := sm_q4 61 rfl rfl
theorem ml7_326 : Cond.methodLink "TwoFliers" 326 ⟨"TwoFliers$Book", "voices", "()I"⟩ ∈ sm_tb := sm_q4 65 rfl rfl
theorem ml7_329 : Cond.methodLink "TwoFliers" 329 ⟨"java/lang/Integer", "bitCount", "(I)I"⟩ ∈ sm_tb := sm_q4 70 rfl rfl
theorem ml7_334 : Cond.methodLink "TwoFliers" 334 ⟨"TwoFliers", "howManyThere", "([I)I"⟩ ∈ sm_tb := sm_q4 76 rfl rfl
theorem ml7_342 : Cond.methodLink "TwoFliers" 342 ⟨"TwoFliers", "count", "(I)I"⟩ ∈ sm_tb := sm_q4 93 rfl rfl
theorem ml7_345 : Cond.methodLink "TwoFliers" 345 ⟨"TwoFliers", "digestInts", "(J[II)J"⟩ ∈ sm_tb := sm_q4 94 rfl rfl
theorem ml7_357 : Cond.methodLink "TwoFliers" 357 ⟨"TwoFliers", "greatestDivisor", "(JJ)J"⟩ ∈ sm_tb := sm_q3 129 rfl rfl
theorem ml7_82 : Cond.methodLink "TwoFliers" 82 ⟨"java/util/Arrays", "fill", "([II)V"⟩ ∈ sm_tb := sm_q1 188 rfl rfl
theorem ml7_88 : Cond.methodLink "TwoFliers" 88 ⟨"TwoFliers", "isRow", "(I)Z"⟩ ∈ sm_tb := sm_q2 4 rfl rfl
theorem ml7_92 : Cond.methodLink "TwoFliers" 92 ⟨"TwoFliers", "found", "(I)I"⟩ ∈ sm_tb := sm_q2 7 rfl rfl
theorem ml7_96 : Cond.methodLink "TwoFliers" 96 ⟨"TwoFliers", "renew", "(II)V"⟩ ∈ sm_tb := sm_q2 11 rfl rfl
theorem ml8_102 : Cond.methodLink "TwoFliersModel" 102 ⟨"TwoFliersModel", "ask", "(II)I"⟩ ∈ sm_tb := sm_q4 221 rfl rfl
theorem ml8_105 : Cond.methodLink "TwoFliersModel" 105 ⟨"TwoFliersModel", "at", "(II)I"⟩ ∈ sm_tb := sm_q4 229 rfl rfl
theorem ml8_108 : Cond.methodLink "TwoFliersModel" 108 ⟨"TwoFliersModel", "askedText", "(I)I"⟩ ∈ sm_tb := sm_q5 13 rfl rfl
theorem ml8_111 : Cond.methodLink "TwoFliersModel" 111 ⟨"TwoFliersModel", "abs", "(I)I"⟩ ∈ sm_tb := sm_q5 27 rfl rfl
theorem ml8_114 : Cond.methodLink "TwoFliersModel" 114 ⟨"TwoFliersModel", "nextOf", "(II)I"⟩ ∈ sm_tb := sm_q5 84 rfl rfl
theorem ml8_117 : Cond.methodLink "TwoFliersModel" 117 ⟨"TwoFliersModel", "isCell", "(I)Z"⟩ ∈ sm_tb := sm_q5 21 rfl rfl
theorem ml8_120 : Cond.methodLink "TwoFliersModel" 120 ⟨"TwoFliersModel", "sideOf", "(II)I"⟩ ∈ sm_tb := sm_q5 24 rfl rfl
theorem ml8_123 : Cond.methodLink "TwoFliersModel" 123 ⟨"TwoFliersModel", "farOf", "(II)I"⟩ ∈ sm_tb := sm_q5 30 rfl rfl
theorem ml8_126 : Cond.methodLink "TwoFliersModel" 126 ⟨"TwoFliersModel", "isSide", "(I)Z"⟩ ∈ sm_tb := sm_q5 37 rfl rfl
theorem ml8_129 : Cond.methodLink "TwoFliersModel" 129 ⟨"TwoFliersModel", "hours", "()I"⟩ ∈ sm_tb := sm_q5 44 rfl rfl
theorem ml8_133 : Cond.methodLink "TwoFliersModel" 133 ⟨"TwoFliersModel", "courseOf", "(I)I"⟩ ∈ sm_tb := sm_q5 52 rfl rfl
theorem ml8_139 : Cond.methodLink "TwoFliersModel" 139 ⟨"TwoFliersModel", "here", "(I)I"⟩ ∈ sm_tb := sm_q5 68 rfl rfl
theorem ml8_145 : Cond.methodLink "TwoFliersModel" 145 ⟨"TwoFliersModel", "reads", "(II)Z"⟩ ∈ sm_tb := sm_q5 76 rfl rfl
theorem ml8_149 : Cond.methodLink "TwoFliersModel" 149 ⟨"TwoFliersModel", "readsNumber", "(III)Z"⟩ ∈ sm_tb := sm_q5 80 rfl rfl
theorem ml8_155 : Cond.methodLink "TwoFliersModel" 155 ⟨"TwoFliersModel", "readsItem", "(I)Z"⟩ ∈ sm_tb := sm_q5 72 rfl rfl
theorem ml8_158 : Cond.methodLink "TwoFliersModel" 158 ⟨"TwoFliersModel", "goesOn", "(I)I"⟩ ∈ sm_tb := sm_q5 64 rfl rfl
theorem ml8_164 : Cond.methodLink "TwoFliersModel" 164 ⟨"TwoFliersModel", "isGood", "(IIII)Z"⟩ ∈ sm_tb := sm_q5 99 rfl rfl
theorem ml8_168 : Cond.methodLink "TwoFliersModel" 168 ⟨"TwoFliersModel", "newSign", "(IIII)I"⟩ ∈ sm_tb := sm_q5 102 rfl rfl
theorem ml8_172 : Cond.methodLink "TwoFliersModel" 172 ⟨"TwoFliersModel", "isSign", "(I)Z"⟩ ∈ sm_tb := sm_q5 114 rfl rfl
theorem ml8_175 : Cond.methodLink "TwoFliersModel" 175 ⟨"TwoFliersModel", "tell", "(II)I"⟩ ∈ sm_tb := sm_q5 118 rfl rfl
theorem ml8_178 : Cond.methodLink "TwoFliersModel" 178 ⟨"TwoFliersModel", "isBetween", "(III)Z"⟩ ∈ sm_tb := sm_q5 140 rfl rfl
theorem ml8_181 : Cond.methodLink "TwoFliersModel" 181 ⟨"TwoFliersModel", "heardBy", "(II)I"⟩ ∈ sm_tb := sm_q5 134 rfl rfl
theorem ml8_184 : Cond.methodLink "TwoFliersModel" 184 ⟨"TwoFliersModel", "isSeen", "(III)Z"⟩ ∈ sm_tb := sm_q5 137 rfl rfl
theorem ml8_187 : Cond.methodLink "TwoFliersModel" 187 ⟨"TwoFliersModel", "weight", "(II)I"⟩ ∈ sm_tb := sm_q5 130 rfl rfl
theorem ml8_190 : Cond.methodLink "TwoFliersModel" 190 ⟨"TwoFliersModel", "leastFar", "(I)I"⟩ ∈ sm_tb := sm_q5 147 rfl rfl
theorem ml8_193 : Cond.methodLink "TwoFliersModel" 193 ⟨"TwoFliersModel", "fullCells", "(I)I"⟩ ∈ sm_tb := sm_q5 154 rfl rfl
theorem ml8_196 : Cond.methodLink "TwoFliersModel" 196 ⟨"TwoFliersModel", "counts", "(I)Z"⟩ ∈ sm_tb := sm_q5 174 rfl rfl
theorem ml8_199 : Cond.methodLink "TwoFliersModel" 199 ⟨"TwoFliersModel", "isByHour", "(I)Z"⟩ ∈ sm_tb := sm_q5 190 rfl rfl
theorem ml8_204 : Cond.methodLink "TwoFliersModel" 204 ⟨"TwoFliersModel", "endOf", "(I)I"⟩ ∈ sm_tb := sm_q5 205 rfl rfl
theorem ml8_207 : Cond.methodLink "TwoFliersModel" 207 ⟨"TwoFliersModel", "hourWeight", "(II)J"⟩ ∈ sm_tb := sm_q5 186 rfl rfl
theorem ml8_211 : Cond.methodLink "TwoFliersModel" 211 ⟨"TwoFliersModel", "turned", "(II)I"⟩ ∈ sm_tb := sm_q5 193 rfl rfl
theorem ml8_214 : Cond.methodLink "TwoFliersModel" 214 ⟨"TwoFliersModel", "goesTo", "(II)I"⟩ ∈ sm_tb := sm_q5 196 rfl rfl
theorem ml8_219 : Cond.methodLink "TwoFliersModel" 219 ⟨"TwoFliersModel", "endWeight", "(II)J"⟩ ∈ sm_tb := sm_q5 200 rfl rfl
theorem ml8_225 : Cond.methodLink "TwoFliersModel" 225 ⟨"TwoFliersModel", "setCome", "()V"⟩ ∈ sm_tb := sm_q5 182 rfl rfl
theorem ml8_228 : Cond.methodLink "TwoFliersModel" 228 ⟨"TwoFliersModel", "weightOf", "(I)J"⟩ ∈ sm_tb := sm_q5 209 rfl rfl
theorem ml8_234 : Cond.methodLink "TwoFliersModel" 234 ⟨"TwoFliersModel", "askedStory", "(I)I"⟩ ∈ sm_tb := sm_q5 166 rfl rfl
theorem ml8_237 : Cond.methodLink "TwoFliersModel" 237 ⟨"TwoFliersModel", "counted", "()I"⟩ ∈ sm_tb := sm_q5 170 rfl rfl
theorem ml8_240 : Cond.methodLink "TwoFliersModel" 240 ⟨"TwoFliersModel", "setEnding", "(I)V"⟩ ∈ sm_tb := sm_q5 178 rfl rfl
theorem ml8_244 : Cond.methodLink "TwoFliersModel" 244 ⟨"TwoFliersModel", "weigh", "(I)I"⟩ ∈ sm_tb := sm_q5 162 rfl rfl
theorem ml8_247 : Cond.methodLink "TwoFliersModel" 247 ⟨"TwoFliersModel", "part", "(JJI)I"⟩ ∈ sm_tb := sm_q5 214 rfl rfl
theorem ml8_251 : Cond.methodLink "TwoFliersModel" 251 ⟨"TwoFliersModel", "mostOf", "()I"⟩ ∈ sm_tb := sm_q5 222 rfl rfl
theorem ml8_254 : Cond.methodLink "TwoFliersModel" 254 ⟨"TwoFliersModel", "setRest", "()V"⟩ ∈ sm_tb := sm_q5 234 rfl rfl
theorem ml8_257 : Cond.methodLink "TwoFliersModel" 257 ⟨"TwoFliersModel", "isVoice", "(I)Z"⟩ ∈ sm_tb := sm_q6 14 rfl rfl
theorem ml8_260 : Cond.methodLink "TwoFliersModel" 260 ⟨"TwoFliersModel", "bare", "(I)J"⟩ ∈ sm_tb := sm_q6 25 rfl rfl
theorem ml8_263 : Cond.methodLink "TwoFliersModel" 263 ⟨"TwoFliersModel", "wasThere", "(II)Z"⟩ ∈ sm_tb := sm_q6 42 rfl rfl
theorem ml8_272 : Cond.methodLink "TwoFliersModel" 272 ⟨"TwoFliersModel", "dragOn", "(IIIJI)V"⟩ ∈ sm_tb := sm_q6 38 rfl rfl
theorem ml8_278 : Cond.methodLink "TwoFliersModel" 278 ⟨"TwoFliersModel", "row", "(II)I"⟩ ∈ sm_tb := sm_q6 46 rfl rfl
theorem ml8_281 : Cond.methodLink "TwoFliersModel" 281 ⟨"TwoFliersModel", "comesIn", "(II)Z"⟩ ∈ sm_tb := sm_q6 51 rfl rfl
theorem ml8_289 : Cond.methodLink "TwoFliersModel" 289 ⟨"TwoFliersModel", "undoneSet", "()I"⟩ ∈ sm_tb := sm_q6 66 rfl rfl
theorem ml8_292 : Cond.methodLink "TwoFliersModel" 292 ⟨"TwoFliersModel", "isImage", "(I)Z"⟩ ∈ sm_tb := sm_q6 74 rfl rfl
theorem ml8_295 : Cond.methodLink "TwoFliersModel" 295 ⟨"TwoFliersModel", "countsOf", "(I)I"⟩ ∈ sm_tb := sm_q6 94 rfl rfl
theorem ml8_303 : Cond.methodLink "TwoFliersModel" 303 ⟨"TwoFliersModel", "mix", "(I)V"⟩ ∈ sm_tb := sm_q6 111 rfl rfl
theorem ml8_308 : Cond.methodLink "TwoFliersModel" 308 ⟨"TwoFliersModel", "mixFlight", "()V"⟩ ∈ sm_tb := sm_q6 116 rfl rfl
theorem ml8_80 : Cond.methodLink "TwoFliersModel" 80 ⟨"TwoFliersModel", "in", "(III)Z"⟩ ∈ sm_tb := sm_q4 202 rfl rfl
theorem ml8_84 : Cond.methodLink "TwoFliersModel" 84 ⟨"TwoFliersModel", "isRow", "(I)Z"⟩ ∈ sm_tb := sm_q4 199 rfl rfl
theorem ml8_88 : Cond.methodLink "TwoFliersModel" 88 ⟨"TwoFliersModel", "meets", "(I)I"⟩ ∈ sm_tb := sm_q4 205 rfl rfl
theorem ml8_92 : Cond.methodLink "TwoFliersModel" 92 ⟨"TwoFliersModel", "isText", "(I)Z"⟩ ∈ sm_tb := sm_q5 6 rfl rfl
theorem ml8_95 : Cond.methodLink "TwoFliersModel" 95 ⟨"TwoFliersModel", "askedRow", "(I)I"⟩ ∈ sm_tb := sm_q4 213 rfl rfl
theorem ml8_98 : Cond.methodLink "TwoFliersModel" 98 ⟨"TwoFliersModel", "rowAt", "(II)I"⟩ ∈ sm_tb := sm_q4 217 rfl rfl
theorem sl1_11 : Cond.methodLink "TwoFliers$Chart" 11 Lib.Math.abs.name ∈ sm_tb := sm_q2 139 rfl rfl
theorem sl1_17 : Cond.methodLink "TwoFliers$Chart" 17 Lib.Math.max.name ∈ sm_tb := sm_q2 142 rfl rfl
theorem sl3_25 : Cond.methodLink "TwoFliers$Plane" 25 arraycopyName ∈ sm_tb := sm_q2 73 rfl rfl
theorem sl5_30 : Cond.methodLink "TwoFliers$Ship" 30 arraycopyName ∈ sm_tb := sm_q3 219 rfl rfl
theorem sl5_38 : Cond.methodLink "TwoFliers$Ship" 38 Lib.Math.max.name ∈ sm_tb := sm_q3 220 rfl rfl
theorem sl6_56 : Cond.methodLink "TwoFliers$Sign" 56 Lib.Math.abs.name ∈ sm_tb := sm_q2 233 rfl rfl
theorem sl6_71 : Cond.methodLink "TwoFliers$Sign" 71 Lib.Math.max.name ∈ sm_tb := sm_q2 232 rfl rfl
theorem sl6_78 : Cond.methodLink "TwoFliers$Sign" 78 Lib.Math.min.name ∈ sm_tb := sm_q3 5 rfl rfl
theorem sl7_108 : Cond.methodLink "TwoFliers" 108 arraycopyName ∈ sm_tb := sm_q2 38 rfl rfl
theorem sl7_351 : Cond.methodLink "TwoFliers" 351 Lib.MathLoose.abs_long.x ∈ sm_tb := sm_q3 126 rfl rfl
end
