section
-- ===== PART A: goes FIRST, ahead of the names: the tables' words, and 'selects' of the private methods out of them =====
/-- a private method of a class that the tables say can be made, by its rows of tables_1 -/
def lw_okq (q : MethodName × Nat) : Prop := (q.1.cls ≠ "java/lang/invoke/MethodHandle" ∧ q.1.cls ≠ "java/lang/invoke/VarHandle") ∧ Cond.instantiable q.1.cls q.2 ∈ tables_1 ∧ Cond.privateMethod q.1 ∈ tables_1 ∧ Cond.instanceMethod q.1 ∈ tables_1
theorem lw_p0 : lw_okq (⟨"TwoFliers", "found", "(I)I"⟩, 16) := ⟨⟨by decide +kernel, by decide +kernel⟩, List.mem_of_getElem? (i := 15) (by decide +kernel), List.mem_of_getElem? (i := 248) (by decide +kernel), List.mem_of_getElem? (i := 249) (by decide +kernel)⟩
theorem lw_p1 : lw_okq (⟨"TwoFliers", "renew", "(II)V"⟩, 16) := ⟨⟨by decide +kernel, by decide +kernel⟩, List.mem_of_getElem? (i := 15) (by decide +kernel), List.mem_of_getElem? (i := 252) (by decide +kernel), List.mem_of_getElem? (i := 253) (by decide +kernel)⟩
theorem lw_p2 : lw_okq (⟨"TwoFliers", "barredPlace", "(II)I"⟩, 16) := ⟨⟨by decide +kernel, by decide +kernel⟩, List.mem_of_getElem? (i := 15) (by decide +kernel), List.mem_of_getElem? (i := 260) (by decide +kernel), List.mem_of_getElem? (i := 261) (by decide +kernel)⟩
theorem lw_p3 : lw_okq (⟨"TwoFliers$Reader", "skipBlanks", "()V"⟩, 6) := ⟨⟨by decide +kernel, by decide +kernel⟩, List.mem_of_getElem? (i := 140) (by decide +kernel), List.mem_of_getElem? (i := 344) (by decide +kernel), List.mem_of_getElem? (i := 345) (by decide +kernel)⟩
theorem lw_p4 : lw_okq (⟨"TwoFliers$Reader", "readItem", "()V"⟩, 6) := ⟨⟨by decide +kernel, by decide +kernel⟩, List.mem_of_getElem? (i := 140) (by decide +kernel), List.mem_of_getElem? (i := 348) (by decide +kernel), List.mem_of_getElem? (i := 349) (by decide +kernel)⟩
theorem lw_p5 : lw_okq (⟨"TwoFliers$Reader", "take", "(I)V"⟩, 6) := ⟨⟨by decide +kernel, by decide +kernel⟩, List.mem_of_getElem? (i := 140) (by decide +kernel), List.mem_of_getElem? (i := 352) (by decide +kernel), List.mem_of_getElem? (i := 353) (by decide +kernel)⟩
theorem lw_p6 : lw_okq (⟨"TwoFliers$Reader", "takeNumber", "(I)I"⟩, 6) := ⟨⟨by decide +kernel, by decide +kernel⟩, List.mem_of_getElem? (i := 140) (by decide +kernel), List.mem_of_getElem? (i := 356) (by decide +kernel), List.mem_of_getElem? (i := 357) (by decide +kernel)⟩
theorem lw_p7 : lw_okq (⟨"TwoFliers$Reader", "takeFigure", "(I)I"⟩, 6) := ⟨⟨by decide +kernel, by decide +kernel⟩, List.mem_of_getElem? (i := 140) (by decide +kernel), List.mem_of_getElem? (i := 360) (by decide +kernel), List.mem_of_getElem? (i := 361) (by decide +kernel)⟩
theorem lw_p8 : lw_okq (⟨"TwoFliers$Reader", "isFigure", "(I)Z"⟩, 6) := ⟨⟨by decide +kernel, by decide +kernel⟩, List.mem_of_getElem? (i := 140) (by decide +kernel), List.mem_of_getElem? (i := 364) (by decide +kernel), List.mem_of_getElem? (i := 365) (by decide +kernel)⟩
theorem lw_p9 : lw_okq (⟨"TwoFliers$Reader", "readRound", "()V"⟩, 6) := ⟨⟨by decide +kernel, by decide +kernel⟩, List.mem_of_getElem? (i := 140) (by decide +kernel), List.mem_of_getElem? (i := 368) (by decide +kernel), List.mem_of_getElem? (i := 369) (by decide +kernel)⟩
theorem lw_p10 : lw_okq (⟨"TwoFliers$Reader", "takeCell", "()I"⟩, 6) := ⟨⟨by decide +kernel, by decide +kernel⟩, List.mem_of_getElem? (i := 140) (by decide +kernel), List.mem_of_getElem? (i := 372) (by decide +kernel), List.mem_of_getElem? (i := 373) (by decide +kernel)⟩
theorem lw_p11 : lw_okq (⟨"TwoFliers$Reader", "readLine", "()V"⟩, 6) := ⟨⟨by decide +kernel, by decide +kernel⟩, List.mem_of_getElem? (i := 140) (by decide +kernel), List.mem_of_getElem? (i := 386) (by decide +kernel), List.mem_of_getElem? (i := 387) (by decide +kernel)⟩
theorem lw_p12 : lw_okq (⟨"TwoFliers", "isMissing", "(I)Z"⟩, 16) := ⟨⟨by decide +kernel, by decide +kernel⟩, List.mem_of_getElem? (i := 15) (by decide +kernel), List.mem_of_getElem? (i := 405) (by decide +kernel), List.mem_of_getElem? (i := 406) (by decide +kernel)⟩
theorem lw_p13 : lw_okq (⟨"TwoFliers$Sign", "cellsSeen", "()I"⟩, 5) := ⟨⟨by decide +kernel, by decide +kernel⟩, List.mem_of_getElem? (i := 69) (by decide +kernel), List.mem_of_getElem? (i := 475) (by decide +kernel), List.mem_of_getElem? (i := 476) (by decide +kernel)⟩
theorem lw_p14 : lw_okq (⟨"TwoFliers$Sign", "saw", "(I)Z"⟩, 5) := ⟨⟨by decide +kernel, by decide +kernel⟩, List.mem_of_getElem? (i := 69) (by decide +kernel), List.mem_of_getElem? (i := 479) (by decide +kernel), List.mem_of_getElem? (i := 480) (by decide +kernel)⟩
theorem lw_p15 : lw_okq (⟨"TwoFliers$Sign", "cellsOfFullWeight", "()I"⟩, 5) := ⟨⟨by decide +kernel, by decide +kernel⟩, List.mem_of_getElem? (i := 69) (by decide +kernel), List.mem_of_getElem? (i := 489) (by decide +kernel), List.mem_of_getElem? (i := 490) (by decide +kernel)⟩
def lw_privs_1 : List (MethodName × Nat) := [(⟨"TwoFliers", "found", "(I)I"⟩, 16), (⟨"TwoFliers", "renew", "(II)V"⟩, 16), (⟨"TwoFliers", "barredPlace", "(II)I"⟩, 16), (⟨"TwoFliers$Reader", "skipBlanks", "()V"⟩, 6), (⟨"TwoFliers$Reader", "readItem", "()V"⟩, 6), (⟨"TwoFliers$Reader", "take", "(I)V"⟩, 6), (⟨"TwoFliers$Reader", "takeNumber", "(I)I"⟩, 6), (⟨"TwoFliers$Reader", "takeFigure", "(I)I"⟩, 6), (⟨"TwoFliers$Reader", "isFigure", "(I)Z"⟩, 6), (⟨"TwoFliers$Reader", "readRound", "()V"⟩, 6), (⟨"TwoFliers$Reader", "takeCell", "()I"⟩, 6), (⟨"TwoFliers$Reader", "readLine", "()V"⟩, 6), (⟨"TwoFliers", "isMissing", "(I)Z"⟩, 16), (⟨"TwoFliers$Sign", "cellsSeen", "()I"⟩, 5), (⟨"TwoFliers$Sign", "saw", "(I)Z"⟩, 5), (⟨"TwoFliers$Sign", "cellsOfFullWeight", "()I"⟩, 5)]
theorem lw_r1 : ∀ q ∈ lw_privs_1, lw_okq q := List.forall_mem_cons.mpr ⟨lw_p0, List.forall_mem_cons.mpr ⟨lw_p1, List.forall_mem_cons.mpr ⟨lw_p2, List.forall_mem_cons.mpr ⟨lw_p3, List.forall_mem_cons.mpr ⟨lw_p4, List.forall_mem_cons.mpr ⟨lw_p5, List.forall_mem_cons.mpr ⟨lw_p6, List.forall_mem_cons.mpr ⟨lw_p7, List.forall_mem_cons.mpr ⟨lw_p8, List.forall_mem_cons.mpr ⟨lw_p9, List.forall_mem_cons.mpr ⟨lw_p10, List.forall_mem_cons.mpr ⟨lw_p11, List.forall_mem_cons.mpr ⟨lw_p12, List.forall_mem_cons.mpr ⟨lw_p13, List.forall_mem_cons.mpr ⟨lw_p14, List.forall_mem_cons.mpr ⟨lw_p15, fun _ h => absurd h List.not_mem_nil⟩⟩⟩⟩⟩⟩⟩⟩⟩⟩⟩⟩⟩⟩⟩⟩
theorem lw_p16 : lw_okq (⟨"TwoFliers", "weighed", "(I)I"⟩, 16) := ⟨⟨by decide +kernel, by decide +kernel⟩, List.mem_of_getElem? (i := 15) (by decide +kernel), List.mem_of_getElem? (i := 529) (by decide +kernel), List.mem_of_getElem? (i := 530) (by decide +kernel)⟩
theorem lw_p17 : lw_okq (⟨"TwoFliers", "barred", "(II)I"⟩, 16) := ⟨⟨by decide +kernel, by decide +kernel⟩, List.mem_of_getElem? (i := 15) (by decide +kernel), List.mem_of_getElem? (i := 533) (by decide +kernel), List.mem_of_getElem? (i := 534) (by decide +kernel)⟩
theorem lw_p18 : lw_okq (⟨"TwoFliers$Odds", "weighFlight", "(III)J"⟩, 8) := ⟨⟨by decide +kernel, by decide +kernel⟩, List.mem_of_getElem? (i := 27) (by decide +kernel), List.mem_of_getElem? (i := 549) (by decide +kernel), List.mem_of_getElem? (i := 550) (by decide +kernel)⟩
theorem lw_p19 : lw_okq (⟨"TwoFliers$Odds", "weighByHour", "(II)V"⟩, 8) := ⟨⟨by decide +kernel, by decide +kernel⟩, List.mem_of_getElem? (i := 27) (by decide +kernel), List.mem_of_getElem? (i := 556) (by decide +kernel), List.mem_of_getElem? (i := 557) (by decide +kernel)⟩
theorem lw_p20 : lw_okq (⟨"TwoFliers$Odds", "weighsIn", "(II)Z"⟩, 8) := ⟨⟨by decide +kernel, by decide +kernel⟩, List.mem_of_getElem? (i := 27) (by decide +kernel), List.mem_of_getElem? (i := 560) (by decide +kernel), List.mem_of_getElem? (i := 561) (by decide +kernel)⟩
theorem lw_p21 : lw_okq (⟨"TwoFliers$Odds", "keepOnly", "(I)V"⟩, 8) := ⟨⟨by decide +kernel, by decide +kernel⟩, List.mem_of_getElem? (i := 27) (by decide +kernel), List.mem_of_getElem? (i := 570) (by decide +kernel), List.mem_of_getElem? (i := 571) (by decide +kernel)⟩
theorem lw_p22 : lw_okq (⟨"TwoFliers$Odds", "land", "(II)J"⟩, 8) := ⟨⟨by decide +kernel, by decide +kernel⟩, List.mem_of_getElem? (i := 27) (by decide +kernel), List.mem_of_getElem? (i := 574) (by decide +kernel), List.mem_of_getElem? (i := 575) (by decide +kernel)⟩
theorem lw_p23 : lw_okq (⟨"TwoFliers$Odds", "weightByEnd", "(II)J"⟩, 8) := ⟨⟨by decide +kernel, by decide +kernel⟩, List.mem_of_getElem? (i := 27) (by decide +kernel), List.mem_of_getElem? (i := 578) (by decide +kernel), List.mem_of_getElem? (i := 579) (by decide +kernel)⟩
theorem lw_p24 : lw_okq (⟨"TwoFliers$Odds", "weightAtLast", "(II)J"⟩, 8) := ⟨⟨by decide +kernel, by decide +kernel⟩, List.mem_of_getElem? (i := 27) (by decide +kernel), List.mem_of_getElem? (i := 583) (by decide +kernel), List.mem_of_getElem? (i := 584) (by decide +kernel)⟩
theorem lw_p25 : lw_okq (⟨"TwoFliers$Odds", "spread", "(I)V"⟩, 8) := ⟨⟨by decide +kernel, by decide +kernel⟩, List.mem_of_getElem? (i := 27) (by decide +kernel), List.mem_of_getElem? (i := 587) (by decide +kernel), List.mem_of_getElem? (i := 588) (by decide +kernel)⟩
theorem lw_p26 : lw_okq (⟨"TwoFliers$Odds", "weighText", "([II)J"⟩, 8) := ⟨⟨by decide +kernel, by decide +kernel⟩, List.mem_of_getElem? (i := 27) (by decide +kernel), List.mem_of_getElem? (i := 599) (by decide +kernel), List.mem_of_getElem? (i := 600) (by decide +kernel)⟩
theorem lw_p27 : lw_okq (⟨"TwoFliers", "fraction", "(JJ)V"⟩, 16) := ⟨⟨by decide +kernel, by decide +kernel⟩, List.mem_of_getElem? (i := 15) (by decide +kernel), List.mem_of_getElem? (i := 603) (by decide +kernel), List.mem_of_getElem? (i := 604) (by decide +kernel)⟩
theorem lw_p28 : lw_okq (⟨"TwoFliers", "storiesThere", "()I"⟩, 16) := ⟨⟨by decide +kernel, by decide +kernel⟩, List.mem_of_getElem? (i := 15) (by decide +kernel), List.mem_of_getElem? (i := 782) (by decide +kernel), List.mem_of_getElem? (i := 783) (by decide +kernel)⟩
theorem lw_p29 : lw_okq (⟨"TwoFliersModel", "meets", "(I)I"⟩, 30) := ⟨⟨by decide +kernel, by decide +kernel⟩, List.mem_of_getElem? (i := 819) (by decide +kernel), List.mem_of_getElem? (i := 926) (by decide +kernel), List.mem_of_getElem? (i := 927) (by decide +kernel)⟩
theorem lw_p30 : lw_okq (⟨"TwoFliersModel", "askedRow", "(I)I"⟩, 30) := ⟨⟨by decide +kernel, by decide +kernel⟩, List.mem_of_getElem? (i := 819) (by decide +kernel), List.mem_of_getElem? (i := 934) (by decide +kernel), List.mem_of_getElem? (i := 935) (by decide +kernel)⟩
theorem lw_p31 : lw_okq (⟨"TwoFliersModel", "rowAt", "(II)I"⟩, 30) := ⟨⟨by decide +kernel, by decide +kernel⟩, List.mem_of_getElem? (i := 819) (by decide +kernel), List.mem_of_getElem? (i := 938) (by decide +kernel), List.mem_of_getElem? (i := 939) (by decide +kernel)⟩
def lw_privs_2 : List (MethodName × Nat) := [(⟨"TwoFliers", "weighed", "(I)I"⟩, 16), (⟨"TwoFliers", "barred", "(II)I"⟩, 16), (⟨"TwoFliers$Odds", "weighFlight", "(III)J"⟩, 8), (⟨"TwoFliers$Odds", "weighByHour", "(II)V"⟩, 8), (⟨"TwoFliers$Odds", "weighsIn", "(II)Z"⟩, 8), (⟨"TwoFliers$Odds", "keepOnly", "(I)V"⟩, 8), (⟨"TwoFliers$Odds", "land", "(II)J"⟩, 8), (⟨"TwoFliers$Odds", "weightByEnd", "(II)J"⟩, 8), (⟨"TwoFliers$Odds", "weightAtLast", "(II)J"⟩, 8), (⟨"TwoFliers$Odds", "spread", "(I)V"⟩, 8), (⟨"TwoFliers$Odds", "weighText", "([II)J"⟩, 8), (⟨"TwoFliers", "fraction", "(JJ)V"⟩, 16), (⟨"TwoFliers", "storiesThere", "()I"⟩, 16), (⟨"TwoFliersModel", "meets", "(I)I"⟩, 30), (⟨"TwoFliersModel", "askedRow", "(I)I"⟩, 30), (⟨"TwoFliersModel", "rowAt", "(II)I"⟩, 30)]
theorem lw_r2 : ∀ q ∈ lw_privs_2, lw_okq q := List.forall_mem_cons.mpr ⟨lw_p16, List.forall_mem_cons.mpr ⟨lw_p17, List.forall_mem_cons.mpr ⟨lw_p18, List.forall_mem_cons.mpr ⟨lw_p19, List.forall_mem_cons.mpr ⟨lw_p20, List.forall_mem_cons.mpr ⟨lw_p21, List.forall_mem_cons.mpr ⟨lw_p22, List.forall_mem_cons.mpr ⟨lw_p23, List.forall_mem_cons.mpr ⟨lw_p24, List.forall_mem_cons.mpr ⟨lw_p25, List.forall_mem_cons.mpr ⟨lw_p26, List.forall_mem_cons.mpr ⟨lw_p27, List.forall_mem_cons.mpr ⟨lw_p28, List.forall_mem_cons.mpr ⟨lw_p29, List.forall_mem_cons.mpr ⟨lw_p30, List.forall_mem_cons.mpr ⟨lw_p31, fun _ h => absurd h List.not_mem_nil⟩⟩⟩⟩⟩⟩⟩⟩⟩⟩⟩⟩⟩⟩⟩⟩
theorem lw_p32 : lw_okq (⟨"TwoFliersModel", "ask", "(II)I"⟩, 30) := ⟨⟨by decide +kernel, by decide +kernel⟩, List.mem_of_getElem? (i := 819) (by decide +kernel), List.mem_of_getElem? (i := 942) (by decide +kernel), List.mem_of_getElem? (i := 943) (by decide +kernel)⟩
theorem lw_p33 : lw_okq (⟨"TwoFliersModel", "askedText", "(I)I"⟩, 30) := ⟨⟨by decide +kernel, by decide +kernel⟩, List.mem_of_getElem? (i := 819) (by decide +kernel), List.mem_of_getElem? (i := 974) (by decide +kernel), List.mem_of_getElem? (i := 975) (by decide +kernel)⟩
theorem lw_p34 : lw_okq (⟨"TwoFliersModel", "hours", "()I"⟩, 30) := ⟨⟨by decide +kernel, by decide +kernel⟩, List.mem_of_getElem? (i := 819) (by decide +kernel), List.mem_of_getElem? (i := 1005) (by decide +kernel), List.mem_of_getElem? (i := 1006) (by decide +kernel)⟩
theorem lw_p35 : lw_okq (⟨"TwoFliersModel", "courseOf", "(I)I"⟩, 30) := ⟨⟨by decide +kernel, by decide +kernel⟩, List.mem_of_getElem? (i := 819) (by decide +kernel), List.mem_of_getElem? (i := 1013) (by decide +kernel), List.mem_of_getElem? (i := 1014) (by decide +kernel)⟩
theorem lw_p36 : lw_okq (⟨"TwoFliersModel", "goesOn", "(I)I"⟩, 30) := ⟨⟨by decide +kernel, by decide +kernel⟩, List.mem_of_getElem? (i := 819) (by decide +kernel), List.mem_of_getElem? (i := 1025) (by decide +kernel), List.mem_of_getElem? (i := 1026) (by decide +kernel)⟩
theorem lw_p37 : lw_okq (⟨"TwoFliersModel", "here", "(I)I"⟩, 30) := ⟨⟨by decide +kernel, by decide +kernel⟩, List.mem_of_getElem? (i := 819) (by decide +kernel), List.mem_of_getElem? (i := 1029) (by decide +kernel), List.mem_of_getElem? (i := 1030) (by decide +kernel)⟩
theorem lw_p38 : lw_okq (⟨"TwoFliersModel", "readsItem", "(I)Z"⟩, 30) := ⟨⟨by decide +kernel, by decide +kernel⟩, List.mem_of_getElem? (i := 819) (by decide +kernel), List.mem_of_getElem? (i := 1033) (by decide +kernel), List.mem_of_getElem? (i := 1034) (by decide +kernel)⟩
theorem lw_p39 : lw_okq (⟨"TwoFliersModel", "reads", "(II)Z"⟩, 30) := ⟨⟨by decide +kernel, by decide +kernel⟩, List.mem_of_getElem? (i := 819) (by decide +kernel), List.mem_of_getElem? (i := 1037) (by decide +kernel), List.mem_of_getElem? (i := 1038) (by decide +kernel)⟩
theorem lw_p40 : lw_okq (⟨"TwoFliersModel", "readsNumber", "(III)Z"⟩, 30) := ⟨⟨by decide +kernel, by decide +kernel⟩, List.mem_of_getElem? (i := 819) (by decide +kernel), List.mem_of_getElem? (i := 1041) (by decide +kernel), List.mem_of_getElem? (i := 1042) (by decide +kernel)⟩
theorem lw_p41 : lw_okq (⟨"TwoFliersModel", "newSign", "(IIII)I"⟩, 30) := ⟨⟨by decide +kernel, by decide +kernel⟩, List.mem_of_getElem? (i := 819) (by decide +kernel), List.mem_of_getElem? (i := 1063) (by decide +kernel), List.mem_of_getElem? (i := 1064) (by decide +kernel)⟩
theorem lw_p42 : lw_okq (⟨"TwoFliersModel", "isSign", "(I)Z"⟩, 30) := ⟨⟨by decide +kernel, by decide +kernel⟩, List.mem_of_getElem? (i := 819) (by decide +kernel), List.mem_of_getElem? (i := 1075) (by decide +kernel), List.mem_of_getElem? (i := 1076) (by decide +kernel)⟩
theorem lw_p43 : lw_okq (⟨"TwoFliersModel", "tell", "(II)I"⟩, 30) := ⟨⟨by decide +kernel, by decide +kernel⟩, List.mem_of_getElem? (i := 819) (by decide +kernel), List.mem_of_getElem? (i := 1079) (by decide +kernel), List.mem_of_getElem? (i := 1080) (by decide +kernel)⟩
theorem lw_p44 : lw_okq (⟨"TwoFliersModel", "weight", "(II)I"⟩, 30) := ⟨⟨by decide +kernel, by decide +kernel⟩, List.mem_of_getElem? (i := 819) (by decide +kernel), List.mem_of_getElem? (i := 1091) (by decide +kernel), List.mem_of_getElem? (i := 1092) (by decide +kernel)⟩
theorem lw_p45 : lw_okq (⟨"TwoFliersModel", "fullCells", "(I)I"⟩, 30) := ⟨⟨by decide +kernel, by decide +kernel⟩, List.mem_of_getElem? (i := 819) (by decide +kernel), List.mem_of_getElem? (i := 1115) (by decide +kernel), List.mem_of_getElem? (i := 1116) (by decide +kernel)⟩
theorem lw_p46 : lw_okq (⟨"TwoFliersModel", "weigh", "(I)I"⟩, 30) := ⟨⟨by decide +kernel, by decide +kernel⟩, List.mem_of_getElem? (i := 819) (by decide +kernel), List.mem_of_getElem? (i := 1123) (by decide +kernel), List.mem_of_getElem? (i := 1124) (by decide +kernel)⟩
theorem lw_p47 : lw_okq (⟨"TwoFliersModel", "askedStory", "(I)I"⟩, 30) := ⟨⟨by decide +kernel, by decide +kernel⟩, List.mem_of_getElem? (i := 819) (by decide +kernel), List.mem_of_getElem? (i := 1127) (by decide +kernel), List.mem_of_getElem? (i := 1128) (by decide +kernel)⟩
def lw_privs_3 : List (MethodName × Nat) := [(⟨"TwoFliersModel", "ask", "(II)I"⟩, 30), (⟨"TwoFliersModel", "askedText", "(I)I"⟩, 30), (⟨"TwoFliersModel", "hours", "()I"⟩, 30), (⟨"TwoFliersModel", "courseOf", "(I)I"⟩, 30), (⟨"TwoFliersModel", "goesOn", "(I)I"⟩, 30), (⟨"TwoFliersModel", "here", "(I)I"⟩, 30), (⟨"TwoFliersModel", "readsItem", "(I)Z"⟩, 30), (⟨"TwoFliersModel", "reads", "(II)Z"⟩, 30), (⟨"TwoFliersModel", "readsNumber", "(III)Z"⟩, 30), (⟨"TwoFliersModel", "newSign", "(IIII)I"⟩, 30), (⟨"TwoFliersModel", "isSign", "(I)Z"⟩, 30), (⟨"TwoFliersModel", "tell", "(II)I"⟩, 30), (⟨"TwoFliersModel", "weight", "(II)I"⟩, 30), (⟨"TwoFliersModel", "fullCells", "(I)I"⟩, 30), (⟨"TwoFliersModel", "weigh", "(I)I"⟩, 30), (⟨"TwoFliersModel", "askedStory", "(I)I"⟩, 30)]
theorem lw_r3 : ∀ q ∈ lw_privs_3, lw_okq q := List.forall_mem_cons.mpr ⟨lw_p32, List.forall_mem_cons.mpr ⟨lw_p33, List.forall_mem_cons.mpr ⟨lw_p34, List.forall_mem_cons.mpr ⟨lw_p35, List.forall_mem_cons.mpr ⟨lw_p36, List.forall_mem_cons.mpr ⟨lw_p37, List.forall_mem_cons.mpr ⟨lw_p38, List.forall_mem_cons.mpr ⟨lw_p39, List.forall_mem_cons.mpr ⟨lw_p40, List.forall_mem_cons.mpr ⟨lw_p41, List.forall_mem_cons.mpr ⟨lw_p42, List.forall_mem_cons.mpr ⟨lw_p43, List.forall_mem_cons.mpr ⟨lw_p44, List.forall_mem_cons.mpr ⟨lw_p45, List.forall_mem_cons.mpr ⟨lw_p46, List.forall_mem_cons.mpr ⟨lw_p47, fun _ h => absurd h List.not_mem_nil⟩⟩⟩⟩⟩⟩⟩⟩⟩⟩⟩⟩⟩⟩⟩⟩
theorem lw_p48 : lw_okq (⟨"TwoFliersModel", "counted", "()I"⟩, 30) := ⟨⟨by decide +kernel, by decide +kernel⟩, List.mem_of_getElem? (i := 819) (by decide +kernel), List.mem_of_getElem? (i := 1131) (by decide +kernel), List.mem_of_getElem? (i := 1132) (by decide +kernel)⟩
theorem lw_p49 : lw_okq (⟨"TwoFliersModel", "counts", "(I)Z"⟩, 30) := ⟨⟨by decide +kernel, by decide +kernel⟩, List.mem_of_getElem? (i := 819) (by decide +kernel), List.mem_of_getElem? (i := 1135) (by decide +kernel), List.mem_of_getElem? (i := 1136) (by decide +kernel)⟩
theorem lw_p50 : lw_okq (⟨"TwoFliersModel", "setEnding", "(I)V"⟩, 30) := ⟨⟨by decide +kernel, by decide +kernel⟩, List.mem_of_getElem? (i := 819) (by decide +kernel), List.mem_of_getElem? (i := 1139) (by decide +kernel), List.mem_of_getElem? (i := 1140) (by decide +kernel)⟩
theorem lw_p51 : lw_okq (⟨"TwoFliersModel", "setCome", "()V"⟩, 30) := ⟨⟨by decide +kernel, by decide +kernel⟩, List.mem_of_getElem? (i := 819) (by decide +kernel), List.mem_of_getElem? (i := 1143) (by decide +kernel), List.mem_of_getElem? (i := 1144) (by decide +kernel)⟩
theorem lw_p52 : lw_okq (⟨"TwoFliersModel", "hourWeight", "(II)J"⟩, 30) := ⟨⟨by decide +kernel, by decide +kernel⟩, List.mem_of_getElem? (i := 819) (by decide +kernel), List.mem_of_getElem? (i := 1147) (by decide +kernel), List.mem_of_getElem? (i := 1148) (by decide +kernel)⟩
theorem lw_p53 : lw_okq (⟨"TwoFliersModel", "endWeight", "(II)J"⟩, 30) := ⟨⟨by decide +kernel, by decide +kernel⟩, List.mem_of_getElem? (i := 819) (by decide +kernel), List.mem_of_getElem? (i := 1161) (by decide +kernel), List.mem_of_getElem? (i := 1162) (by decide +kernel)⟩
theorem lw_p54 : lw_okq (⟨"TwoFliersModel", "endOf", "(I)I"⟩, 30) := ⟨⟨by decide +kernel, by decide +kernel⟩, List.mem_of_getElem? (i := 819) (by decide +kernel), List.mem_of_getElem? (i := 1166) (by decide +kernel), List.mem_of_getElem? (i := 1167) (by decide +kernel)⟩
theorem lw_p55 : lw_okq (⟨"TwoFliersModel", "weightOf", "(I)J"⟩, 30) := ⟨⟨by decide +kernel, by decide +kernel⟩, List.mem_of_getElem? (i := 819) (by decide +kernel), List.mem_of_getElem? (i := 1170) (by decide +kernel), List.mem_of_getElem? (i := 1171) (by decide +kernel)⟩
theorem lw_p56 : lw_okq (⟨"TwoFliersModel", "part", "(JJI)I"⟩, 30) := ⟨⟨by decide +kernel, by decide +kernel⟩, List.mem_of_getElem? (i := 819) (by decide +kernel), List.mem_of_getElem? (i := 1175) (by decide +kernel), List.mem_of_getElem? (i := 1176) (by decide +kernel)⟩
theorem lw_p57 : lw_okq (⟨"TwoFliersModel", "mostOf", "()I"⟩, 30) := ⟨⟨by decide +kernel, by decide +kernel⟩, List.mem_of_getElem? (i := 819) (by decide +kernel), List.mem_of_getElem? (i := 1183) (by decide +kernel), List.mem_of_getElem? (i := 1184) (by decide +kernel)⟩
theorem lw_p58 : lw_okq (⟨"TwoFliersModel", "setRest", "()V"⟩, 30) := ⟨⟨by decide +kernel, by decide +kernel⟩, List.mem_of_getElem? (i := 819) (by decide +kernel), List.mem_of_getElem? (i := 1195) (by decide +kernel), List.mem_of_getElem? (i := 1196) (by decide +kernel)⟩
theorem lw_p59 : lw_okq (⟨"TwoFliersModel", "bare", "(I)J"⟩, 30) := ⟨⟨by decide +kernel, by decide +kernel⟩, List.mem_of_getElem? (i := 819) (by decide +kernel), List.mem_of_getElem? (i := 1226) (by decide +kernel), List.mem_of_getElem? (i := 1227) (by decide +kernel)⟩
theorem lw_p60 : lw_okq (⟨"TwoFliersModel", "dragOn", "(IIIJI)V"⟩, 30) := ⟨⟨by decide +kernel, by decide +kernel⟩, List.mem_of_getElem? (i := 819) (by decide +kernel), List.mem_of_getElem? (i := 1239) (by decide +kernel), List.mem_of_getElem? (i := 1240) (by decide +kernel)⟩
theorem lw_p61 : lw_okq (⟨"TwoFliersModel", "wasThere", "(II)Z"⟩, 30) := ⟨⟨by decide +kernel, by decide +kernel⟩, List.mem_of_getElem? (i := 819) (by decide +kernel), List.mem_of_getElem? (i := 1243) (by decide +kernel), List.mem_of_getElem? (i := 1244) (by decide +kernel)⟩
theorem lw_p62 : lw_okq (⟨"TwoFliersModel", "comesIn", "(II)Z"⟩, 30) := ⟨⟨by decide +kernel, by decide +kernel⟩, List.mem_of_getElem? (i := 819) (by decide +kernel), List.mem_of_getElem? (i := 1252) (by decide +kernel), List.mem_of_getElem? (i := 1253) (by decide +kernel)⟩
theorem lw_p63 : lw_okq (⟨"TwoFliersModel", "undoneSet", "()I"⟩, 30) := ⟨⟨by decide +kernel, by decide +kernel⟩, List.mem_of_getElem? (i := 819) (by decide +kernel), List.mem_of_getElem? (i := 1267) (by decide +kernel), List.mem_of_getElem? (i := 1268) (by decide +kernel)⟩
def lw_privs_4 : List (MethodName × Nat) := [(⟨"TwoFliersModel", "counted", "()I"⟩, 30), (⟨"TwoFliersModel", "counts", "(I)Z"⟩, 30), (⟨"TwoFliersModel", "setEnding", "(I)V"⟩, 30), (⟨"TwoFliersModel", "setCome", "()V"⟩, 30), (⟨"TwoFliersModel", "hourWeight", "(II)J"⟩, 30), (⟨"TwoFliersModel", "endWeight", "(II)J"⟩, 30), (⟨"TwoFliersModel", "endOf", "(I)I"⟩, 30), (⟨"TwoFliersModel", "weightOf", "(I)J"⟩, 30), (⟨"TwoFliersModel", "part", "(JJI)I"⟩, 30), (⟨"TwoFliersModel", "mostOf", "()I"⟩, 30), (⟨"TwoFliersModel", "setRest", "()V"⟩, 30), (⟨"TwoFliersModel", "bare", "(I)J"⟩, 30), (⟨"TwoFliersModel", "dragOn", "(IIIJI)V"⟩, 30), (⟨"TwoFliersModel", "wasThere", "(II)Z"⟩, 30), (⟨"TwoFliersModel", "comesIn", "(II)Z"⟩, 30), (⟨"TwoFliersModel", "undoneSet", "()I"⟩, 30)]
theorem lw_r4 : ∀ q ∈ lw_privs_4, lw_okq q := List.forall_mem_cons.mpr ⟨lw_p48, List.forall_mem_cons.mpr ⟨lw_p49, List.forall_mem_cons.mpr ⟨lw_p50, List.forall_mem_cons.mpr ⟨lw_p51, List.forall_mem_cons.mpr ⟨lw_p52, List.forall_mem_cons.mpr ⟨lw_p53, List.forall_mem_cons.mpr ⟨lw_p54, List.forall_mem_cons.mpr ⟨lw_p55, List.forall_mem_cons.mpr ⟨lw_p56, List.forall_mem_cons.mpr ⟨lw_p57, List.forall_mem_cons.mpr ⟨lw_p58, List.forall_mem_cons.mpr ⟨lw_p59, List.forall_mem_cons.mpr ⟨lw_p60, List.forall_mem_cons.mpr ⟨lw_p61, List.forall_mem_cons.mpr ⟨lw_p62, List.forall_mem_cons.mpr ⟨lw_p63, fun _ h => absurd h List.not_mem_nil⟩⟩⟩⟩⟩⟩⟩⟩⟩⟩⟩⟩⟩⟩⟩⟩
theorem lw_p64 : lw_okq (⟨"TwoFliersModel", "isImage", "(I)Z"⟩, 30) := ⟨⟨by decide +kernel, by decide +kernel⟩, List.mem_of_getElem? (i := 819) (by decide +kernel), List.mem_of_getElem? (i := 1275) (by decide +kernel), List.mem_of_getElem? (i := 1276) (by decide +kernel)⟩
theorem lw_p65 : lw_okq (⟨"TwoFliersModel", "countsOf", "(I)I"⟩, 30) := ⟨⟨by decide +kernel, by decide +kernel⟩, List.mem_of_getElem? (i := 819) (by decide +kernel), List.mem_of_getElem? (i := 1295) (by decide +kernel), List.mem_of_getElem? (i := 1296) (by decide +kernel)⟩
theorem lw_p66 : lw_okq (⟨"TwoFliersModel", "mix", "(I)V"⟩, 30) := ⟨⟨by decide +kernel, by decide +kernel⟩, List.mem_of_getElem? (i := 819) (by decide +kernel), List.mem_of_getElem? (i := 1312) (by decide +kernel), List.mem_of_getElem? (i := 1313) (by decide +kernel)⟩
theorem lw_p67 : lw_okq (⟨"TwoFliersModel", "mixFlight", "()V"⟩, 30) := ⟨⟨by decide +kernel, by decide +kernel⟩, List.mem_of_getElem? (i := 819) (by decide +kernel), List.mem_of_getElem? (i := 1317) (by decide +kernel), List.mem_of_getElem? (i := 1318) (by decide +kernel)⟩
def lw_privs_5 : List (MethodName × Nat) := [(⟨"TwoFliersModel", "isImage", "(I)Z"⟩, 30), (⟨"TwoFliersModel", "countsOf", "(I)I"⟩, 30), (⟨"TwoFliersModel", "mix", "(I)V"⟩, 30), (⟨"TwoFliersModel", "mixFlight", "()V"⟩, 30)]
theorem lw_r5 : ∀ q ∈ lw_privs_5, lw_okq q := List.forall_mem_cons.mpr ⟨lw_p64, List.forall_mem_cons.mpr ⟨lw_p65, List.forall_mem_cons.mpr ⟨lw_p66, List.forall_mem_cons.mpr ⟨lw_p67, fun _ h => absurd h List.not_mem_nil⟩⟩⟩⟩
def lw_privs : List (MethodName × Nat) := lw_privs_1 ++ (lw_privs_2 ++ (lw_privs_3 ++ (lw_privs_4 ++ (lw_privs_5))))
def lw_tbl : List Cond := k2_sels lw_privs ++ tables_1
theorem lw_privs_ok : ∀ q ∈ lw_privs, lw_okq q := by
  show ∀ q ∈ lw_privs_1 ++ (lw_privs_2 ++ (lw_privs_3 ++ (lw_privs_4 ++ (lw_privs_5)))), lw_okq q
  exact List.forall_mem_append.mpr ⟨lw_r1, List.forall_mem_append.mpr ⟨lw_r2, List.forall_mem_append.mpr ⟨lw_r3, List.forall_mem_append.mpr ⟨lw_r4, lw_r5⟩⟩⟩⟩
end
section
def RX0 : String := "TwoFliers$Book"
def TX0 : u_T := fun k => match k with
  | 0 => ("TwoFliers$Book", "signs", "[LTwoFliers$Sign;", true)
  | _ => ("TwoFliers$Book", "many", "I", false)
def tyX0 : Nat → FieldType := fun k => match k with
  | 0 => .array (.object "TwoFliers$Sign")
  | _ => .int
theorem nmX0 : ∀ a, a < 2 → ∀ b, b < 2 → a ≠ b → (TX0 a).2.1 ≠ (TX0 b).2.1 := by decide +kernel
theorem tyX0_ok : ∀ k, k < 2 → parseFieldDescriptor (TX0 k).2.2.1 = some (tyX0 k) := by decide +kernel
def RX2 : String := "TwoFliers$Odds"
def TX2 : u_T := fun k => match k with
  | 0 => ("TwoFliers$Odds", "plane", "LTwoFliers$Plane;", true)
  | 1 => ("TwoFliers$Odds", "book", "LTwoFliers$Book;", true)
  | 2 => ("TwoFliers$Odds", "stories", "[[I", true)
  | 3 => ("TwoFliers$Odds", "weight", "[J", true)
  | 4 => ("TwoFliers$Odds", "byHour", "[J", true)
  | 5 => ("TwoFliers$Odds", "all", "J", false)
  | 6 => ("TwoFliers$Odds", "now", "[J", false)
  | _ => ("TwoFliers$Odds", "next", "[J", false)
def tyX2 : Nat → FieldType := fun k => match k with
  | 0 => .object "TwoFliers$Plane"
  | 1 => .object "TwoFliers$Book"
  | 2 => .array (.array .int)
  | 3 => .array .long
  | 4 => .array .long
  | 5 => .long
  | 6 => .array .long
  | _ => .array .long
theorem nmX2 : ∀ a, a < 8 → ∀ b, b < 8 → a ≠ b → (TX2 a).2.1 ≠ (TX2 b).2.1 := by decide +kernel
theorem tyX2_ok : ∀ k, k < 8 → parseFieldDescriptor (TX2 k).2.2.1 = some (tyX2 k) := by decide +kernel
def RX3 : String := "TwoFliers$Plane"
def TX3 : u_T := fun k => match k with
  | 0 => ("TwoFliers$Plane", "cell", "I", false)
  | 1 => ("TwoFliers$Plane", "hours", "I", false)
  | 2 => ("TwoFliers$Plane", "courses", "[I", true)
  | _ => ("TwoFliers$Plane", "ends", "[I", true)
def tyX3 : Nat → FieldType := fun k => match k with
  | 0 => .int
  | 1 => .int
  | 2 => .array .int
  | _ => .array .int
theorem nmX3 : ∀ a, a < 4 → ∀ b, b < 4 → a ≠ b → (TX3 a).2.1 ≠ (TX3 b).2.1 := by decide +kernel
theorem tyX3_ok : ∀ k, k < 4 → parseFieldDescriptor (TX3 k).2.2.1 = some (tyX3 k) := by decide +kernel
def RX4 : String := "TwoFliers$Reader"
def TX4 : u_T := fun k => match k with
  | 0 => ("TwoFliers$Reader", "text", "[B", false)
  | 1 => ("TwoFliers$Reader", "size", "I", false)
  | 2 => ("TwoFliers$Reader", "place", "I", false)
  | 3 => ("TwoFliers$Reader", "fault", "I", false)
  | 4 => ("TwoFliers$Reader", "laid", "[I", true)
  | _ => ("TwoFliers$Reader", "items", "I", false)
def tyX4 : Nat → FieldType := fun k => match k with
  | 0 => .array .byte
  | 1 => .int
  | 2 => .int
  | 3 => .int
  | 4 => .array .int
  | _ => .int
theorem nmX4 : ∀ a, a < 6 → ∀ b, b < 6 → a ≠ b → (TX4 a).2.1 ≠ (TX4 b).2.1 := by decide +kernel
theorem tyX4_ok : ∀ k, k < 6 → parseFieldDescriptor (TX4 k).2.2.1 = some (tyX4 k) := by decide +kernel
def RX5 : String := "TwoFliers$Ship"
def TX5 : u_T := fun k => match k with
  | 0 => ("TwoFliers$Ship", "bestWay", "[I", true)
  | 1 => ("TwoFliers$Ship", "way", "[I", true)
  | 2 => ("TwoFliers$Ship", "best", "J", false)
  | _ => ("TwoFliers$Ship", "hours", "I", false)
def tyX5 : Nat → FieldType := fun k => match k with
  | 0 => .array .int
  | 1 => .array .int
  | 2 => .long
  | _ => .int
theorem nmX5 : ∀ a, a < 4 → ∀ b, b < 4 → a ≠ b → (TX5 a).2.1 ≠ (TX5 b).2.1 := by decide +kernel
theorem tyX5_ok : ∀ k, k < 4 → parseFieldDescriptor (TX5 k).2.2.1 = some (tyX5 k) := by decide +kernel
def RX6 : String := "TwoFliers$Sign"
def TX6 : u_T := fun k => match k with
  | 0 => ("TwoFliers$Sign", "kind", "I", false)
  | 1 => ("TwoFliers$Sign", "a", "I", false)
  | 2 => ("TwoFliers$Sign", "b", "I", false)
  | 3 => ("TwoFliers$Sign", "c", "I", false)
  | _ => ("TwoFliers$Sign", "undone", "Z", false)
def tyX6 : Nat → FieldType := fun k => match k with
  | 0 => .int
  | 1 => .int
  | 2 => .int
  | 3 => .int
  | _ => .boolean
theorem nmX6 : ∀ a, a < 5 → ∀ b, b < 5 → a ≠ b → (TX6 a).2.1 ≠ (TX6 b).2.1 := by decide +kernel
theorem tyX6_ok : ∀ k, k < 5 → parseFieldDescriptor (TX6 k).2.2.1 = some (tyX6 k) := by decide +kernel
def RX7 : String := "TwoFliers"
def TX7 : u_T := fun k => match k with
  | 0 => ("TwoFliers", "rows", "[[I", true)
  | 1 => ("TwoFliers", "rowSizes", "[I", true)
  | 2 => ("TwoFliers", "texts", "[[B", true)
  | 3 => ("TwoFliers", "textSizes", "[I", true)
  | 4 => ("TwoFliers", "odds", "LTwoFliers$Odds;", true)
  | 5 => ("TwoFliers", "plane", "LTwoFliers$Plane;", true)
  | 6 => ("TwoFliers", "book", "LTwoFliers$Book;", true)
  | 7 => ("TwoFliers", "stories", "[[I", true)
  | 8 => ("TwoFliers", "storyThere", "[Z", true)
  | 9 => ("TwoFliers", "reader", "LTwoFliers$Reader;", true)
  | 10 => ("TwoFliers", "ship", "LTwoFliers$Ship;", true)
  | 11 => ("TwoFliers", "lastAsked", "I", false)
  | 12 => ("TwoFliers", "lastUpper", "J", false)
  | 13 => ("TwoFliers", "lastLower", "J", false)
  | 14 => ("TwoFliers", "lastFinding", "I", false)
  | _ => ("TwoFliers", "findingCounts", "[I", true)
def tyX7 : Nat → FieldType := fun k => match k with
  | 0 => .array (.array .int)
  | 1 => .array .int
  | 2 => .array (.array .byte)
  | 3 => .array .int
  | 4 => .object "TwoFliers$Odds"
  | 5 => .object "TwoFliers$Plane"
  | 6 => .object "TwoFliers$Book"
  | 7 => .array (.array .int)
  | 8 => .array .boolean
  | 9 => .object "TwoFliers$Reader"
  | 10 => .object "TwoFliers$Ship"
  | 11 => .int
  | 12 => .long
  | 13 => .long
  | 14 => .int
  | _ => .array .int
theorem nmX7 : ∀ a, a < 16 → ∀ b, b < 16 → a ≠ b → (TX7 a).2.1 ≠ (TX7 b).2.1 := by decide +kernel
theorem tyX7_ok : ∀ k, k < 16 → parseFieldDescriptor (TX7 k).2.2.1 = some (tyX7 k) := by decide +kernel
def RX8 : String := "TwoFliersModel"
def TX8 : u_T := fun k => match k with
  | 0 => ("TwoFliersModel", "finding", "I", false)
  | 1 => ("TwoFliersModel", "findings", "[I", true)
  | 2 => ("TwoFliersModel", "asked", "I", false)
  | 3 => ("TwoFliersModel", "upper", "J", false)
  | 4 => ("TwoFliersModel", "lower", "J", false)
  | 5 => ("TwoFliersModel", "sizes", "[I", true)
  | 6 => ("TwoFliersModel", "rows", "[I", true)
  | 7 => ("TwoFliersModel", "moving", "[I", true)
  | 8 => ("TwoFliersModel", "lengths", "[I", true)
  | 9 => ("TwoFliersModel", "texts", "[I", true)
  | 10 => ("TwoFliersModel", "flight", "[I", true)
  | 11 => ("TwoFliersModel", "isStory", "[Z", true)
  | 12 => ("TwoFliersModel", "lies", "[I", true)
  | 13 => ("TwoFliersModel", "readLies", "[I", true)
  | 14 => ("TwoFliersModel", "readAt", "I", false)
  | 15 => ("TwoFliersModel", "readNumber", "I", false)
  | 16 => ("TwoFliersModel", "readMany", "I", false)
  | 17 => ("TwoFliersModel", "signMany", "I", false)
  | 18 => ("TwoFliersModel", "signs", "[I", true)
  | 19 => ("TwoFliersModel", "leftOut", "I", false)
  | 20 => ("TwoFliersModel", "come", "[J", true)
  | 21 => ("TwoFliersModel", "rest", "[J", true)
  | 22 => ("TwoFliersModel", "ending", "[J", true)
  | 23 => ("TwoFliersModel", "all", "J", false)
  | 24 => ("TwoFliersModel", "drags", "[I", true)
  | 25 => ("TwoFliersModel", "bestDrag", "[I", true)
  | 26 => ("TwoFliersModel", "bestWeight", "J", false)
  | 27 => ("TwoFliersModel", "bestMany", "I", false)
  | 28 => ("TwoFliersModel", "tried", "[I", true)
  | _ => ("TwoFliersModel", "h0", "J", false)
def tyX8 : Nat → FieldType := fun k => match k with
  | 0 => .int
  | 1 => .array .int
  | 2 => .int
  | 3 => .long
  | 4 => .long
  | 5 => .array .int
  | 6 => .array .int
  | 7 => .array .int
  | 8 => .array .int
  | 9 => .array .int
  | 10 => .array .int
  | 11 => .array .boolean
  | 12 => .array .int
  | 13 => .array .int
  | 14 => .int
  | 15 => .int
  | 16 => .int
  | 17 => .int
  | 18 => .array .int
  | 19 => .int
  | 20 => .array .long
  | 21 => .array .long
  | 22 => .array .long
  | 23 => .long
  | 24 => .array .int
  | 25 => .array .int
  | 26 => .long
  | 27 => .int
  | 28 => .array .int
  | _ => .long
theorem nmX8 : ∀ a, a < 30 → ∀ b, b < 30 → a ≠ b → (TX8 a).2.1 ≠ (TX8 b).2.1 := by decide +kernel
theorem tyX8_ok : ∀ k, k < 30 → parseFieldDescriptor (TX8 k).2.2.1 = some (tyX8 k) := by decide +kernel
def RX1 : String := "TwoFliers$Chart"
theorem sm_in0 : u_ws RX0 TX0 2 = ([169, 171] : List Nat).filterMap (fun i => lw_tbl[i]?) := by decide +kernel
theorem sm_in2 : u_ws RX2 TX2 8 = ([189, 191, 193, 195, 197, 199, 201, 203] : List Nat).filterMap (fun i => lw_tbl[i]?) := by decide +kernel
theorem sm_in3 : u_ws RX3 TX3 4 = ([118, 120, 122, 124] : List Nat).filterMap (fun i => lw_tbl[i]?) := by decide +kernel
theorem sm_in4 : u_ws RX4 TX4 6 = ([221, 223, 225, 227, 229, 231] : List Nat).filterMap (fun i => lw_tbl[i]?) := by decide +kernel
theorem sm_in5 : u_ws RX5 TX5 4 = ([247, 249, 251, 253] : List Nat).filterMap (fun i => lw_tbl[i]?) := by decide +kernel
theorem sm_in6 : u_ws RX6 TX6 5 = ([152, 154, 156, 158, 160] : List Nat).filterMap (fun i => lw_tbl[i]?) := by decide +kernel
theorem sm_in7 : u_ws RX7 TX7 16 = ([275, 277, 279, 281, 283, 285, 287, 289, 291, 293, 295, 297, 299, 301, 303, 305] : List Nat).filterMap (fun i => lw_tbl[i]?) := by decide +kernel
theorem sm_in8 : u_ws RX8 TX8 30 = ([922, 924, 926, 928, 930, 932, 934, 936, 938, 940, 942, 944, 946, 948, 950, 952, 954, 956, 958, 960, 962, 964, 966, 968, 970, 972, 974, 976, 978, 980] : List Nat).filterMap (fun i => lw_tbl[i]?) := by decide +kernel
end
section
/-! ===== the small machine: memories, the world that they stand for, what it is that a piece of code is worth ===== -/
def sm_tb : List Cond := lw_tbl.filter goodWord
theorem sm_at (i : Nat) {w : Cond} (h : lw_tbl[i]? = some w) (hg : goodWord w = true) : w ∈ sm_tb := List.mem_filter.mpr ⟨List.mem_of_getElem? h, hg⟩
theorem sm_gi : GoodIn sm_tb sm_tb := fun w hw => ⟨hw, good_of_word (List.mem_filter.mp hw).2⟩
theorem sm_ly (C : String) (T : u_T) (N : Nat) (ps : List Nat) (h : u_ws C T N = ps.filterMap (fun i => lw_tbl[i]?)) (hg : (u_ws C T N).all goodWord = true) : ∀ w ∈ u_ws C T N, w ∈ sm_tb := fun w hw => by
  have h1 := List.all_eq_true.mp hg w hw
  rw [h] at hw
  obtain ⟨i, -, hi⟩ := List.mem_filterMap.mp hw
  exact sm_at i hi h1
abbrev sm_Sh : Type := List ((FieldType × Nat) ⊕ Nat)
abbrev sm_M : Type := sm_Sh × (Nat → Nat → Int32) × (Nat → Nat → Int64) × (Nat → Nat → Option Nat)
/-- where the numbers of cells lie, from where on cells are the run's own, the script, classes -/
abbrev sm_G : Type := (Nat → Nat) × Nat × Nat × (Nat → Int32) × va_G × (FieldType → ClassId)
def sm_A (g : sm_G) : Nat → Prop := fun q => g.2.1 ≤ q
def sm_tv (g : sm_G) (v : Value) : Value := match v with
  | .ref a => .ref (g.1 a)
  | w => w
theorem sm_tv_cat (g : sm_G) (v : Value) : (sm_tv g v).category = v.category := by cases v <;> rfl
def sm_cl : List vw_C := [(RX0, TX0, 2), (RX2, TX2, 8), (RX3, TX3, 4), (RX4, TX4, 6), (RX5, TX5, 4), (RX6, TX6, 5), (RX7, TX7, 16), (RX8, TX8, 30)]
def sm_nf (ci : Nat) : Nat := match ci with
  | 0 => 2 | 1 => 8 | 2 => 4 | 3 => 6 | 4 => 4 | 5 => 5 | 6 => 16 | 7 => 30 | _ => 0
def sm_tf (ci : Nat) : Nat → FieldType := match ci with
  | 0 => tyX0 | 1 => tyX2 | 2 => tyX3 | 3 => tyX4 | 4 => tyX5 | 5 => tyX6 | 6 => tyX7 | _ => tyX8
def sm_T (ci : Nat) : u_T := match ci with
  | 0 => TX0 | 1 => TX2 | 2 => TX3 | 3 => TX4 | 4 => TX5 | 5 => TX6 | 6 => TX7 | _ => TX8
def sm_Rn (ci : Nat) : String := match ci with
  | 0 => RX0 | 1 => RX2 | 2 => RX3 | 3 => RX4 | 4 => RX5 | 5 => RX6 | 6 => RX7 | _ => RX8
theorem sm_c8 {P : Nat → Prop} (h0 : P 0) (h1 : P 1) (h2 : P 2) (h3 : P 3) (h4 : P 4) (h5 : P 5) (h6 : P 6) (h7 : P 7) (ci : Nat) (h : ci < 8) : P ci := by
  match ci, h with
  | 0, _ => exact h0 | 1, _ => exact h1 | 2, _ => exact h2 | 3, _ => exact h3 | 4, _ => exact h4 | 5, _ => exact h5 | 6, _ => exact h6 | 7, _ => exact h7
theorem sm_cl_at : ∀ ci, ci < 8 → sm_cl[ci]? = some (sm_Rn ci, sm_T ci, sm_nf ci) := sm_c8 rfl rfl rfl rfl rfl rfl rfl rfl
theorem sm_cl_in : ∀ ci, ci < 8 → ∀ w ∈ u_ws (sm_Rn ci) (sm_T ci) (sm_nf ci), w ∈ sm_tb := sm_c8 (sm_ly _ _ _ _ sm_in0 (by decide +kernel)) (sm_ly _ _ _ _ sm_in2 (by decide +kernel)) (sm_ly _ _ _ _ sm_in3 (by decide +kernel)) (sm_ly _ _ _ _ sm_in4 (by decide +kernel)) (sm_ly _ _ _ _ sm_in5 (by decide +kernel)) (sm_ly _ _ _ _ sm_in6 (by decide +kernel)) (sm_ly _ _ _ _ sm_in7 (by decide +kernel)) (sm_ly _ _ _ _ sm_in8 (by decide +kernel))
theorem sm_cl_ty : ∀ ci, ci < 8 → ∀ k, k < sm_nf ci → parseFieldDescriptor (sm_T ci k).2.2.1 = some (sm_tf ci k) := sm_c8 tyX0_ok tyX2_ok tyX3_ok tyX4_ok tyX5_ok tyX6_ok tyX7_ok tyX8_ok
theorem sm_cl_nm : ∀ ci, ci < 8 → ∀ a, a < sm_nf ci → ∀ b, b < sm_nf ci → a ≠ b → (sm_T ci a).2.1 ≠ (sm_T ci b).2.1 := sm_c8 nmX0 nmX2 nmX3 nmX4 nmX5 nmX6 nmX7 nmX8
def sm_kd (ty : FieldType) : Nat := match ty with
  | .long => 1 | .object _ => 2 | .array _ => 2 | _ => 0
def sm_fv (g : sm_G) (M : sm_M) (a ci k : Nat) : Value := match sm_kd (sm_tf ci k) with
  | 0 => .int (M.2.1 a k)
  | 1 => .long (M.2.2.1 a k)
  | _ => va_rf ((M.2.2.2 a k).map g.1)
def sm_ar (g : sm_G) (M : sm_M) (a : Nat) (ty : FieldType) (n : Nat) : vp_A := match sm_kd ty with
  | 0 => (n, .inl (M.2.1 a))
  | 1 => (n, .inr (.inl (M.2.2.1 a)))
  | _ => (n, .inr (.inr (.inr (.inr (fun j => (M.2.2.2 a j).map g.1)))))
def sm_ce (g : sm_G) (M : sm_M) (a : Nat) (x : (FieldType × Nat) ⊕ Nat) : va_E := match x with
  | .inl q => .inl (g.2.2.2.2.2 q.1, sm_ar g M a q.1 q.2)
  | .inr ci => .inr (ci, (List.range (sm_nf ci)).map (sm_fv g M a ci))
def sm_w (g : sm_G) (M : sm_M) : va_W := (M.1.drop 3).zipIdx.map (fun q => (g.1 (q.2 + 3), sm_ce g M (q.2 + 3) q.1))
theorem sm_w_get (g : sm_G) (M : sm_M) (j : Nat) : (sm_w g M)[j]? = (M.1[j + 3]?).map (fun x => (g.1 (j + 3), sm_ce g M (j + 3) x)) := by
  unfold sm_w
  rw [List.getElem?_map, List.getElem?_zipIdx, List.getElem?_drop, Nat.add_comm 3 j]
  cases M.1[j + 3]? <;> simp
theorem sm_w_at {g : sm_G} {M : sm_M} {a : Nat} {x : (FieldType × Nat) ⊕ Nat} (h : M.1[a]? = some x) (h3 : 3 ≤ a) : (sm_w g M)[a - 3]? = some (g.1 a, sm_ce g M a x) := by
  rw [sm_w_get, Nat.sub_add_cancel h3, h]
  rfl
theorem sm_ce_eq {g : sm_G} {M M' : sm_M} {b : Nat} (h1 : M'.2.1 b = M.2.1 b) (h2 : M'.2.2.1 b = M.2.2.1 b) (h3 : M'.2.2.2 b = M.2.2.2 b) (x : (FieldType × Nat) ⊕ Nat) : sm_ce g M' b x = sm_ce g M b x := by
  cases x with
  | inl q => simp only [sm_ce, sm_ar, h1, h2, h3]
  | inr ci =>
    have e : sm_fv g M' b ci = sm_fv g M b ci := funext fun k => by simp only [sm_fv, h1, h2, h3]
    simp only [sm_ce, e]
theorem sm_w_set {g : sm_G} {M M' : sm_M} {a : Nat} {x : (FieldType × Nat) ⊕ Nat} {E : va_E} (hs : M'.1 = M.1) (ho : ∀ b, b ≠ a → M'.2.1 b = M.2.1 b ∧ M'.2.2.1 b = M.2.2.1 b ∧ M'.2.2.2 b = M.2.2.2 b) (h : M.1[a]? = some x) (h3 : 3 ≤ a) (hE : sm_ce g M' a x = E) : (sm_w g M).set (a - 3) (g.1 a, E) = sm_w g M' := by
  apply List.ext_getElem?
  intro j
  rw [sm_w_get g M' j, hs]
  by_cases e : j = a - 3
  · subst e
    rw [List.getElem?_set_self (List.getElem?_eq_some_iff.mp (sm_w_at (g := g) h h3)).1, Nat.sub_add_cancel h3, h, ← hE]
    rfl
  · rw [List.getElem?_set_ne (Ne.symm e), sm_w_get]
    have hb : j + 3 ≠ a := by omega
    obtain ⟨h1, h2, h4⟩ := ho _ hb
    cases M.1[j + 3]? with
    | none => rfl
    | some y => simp only [Option.map_some]; rw [sm_ce_eq h1 h2 h4]
/-- the two static arrays (cells 0, 1) and the script (cell 2) -/
def sm_sx : Nat → Int32 := fun j => ([0, 1, 1, 1, 0, -1, -1, -1] : List Int32).getD j 0
def sm_sy : Nat → Int32 := fun j => ([-1, -1, 0, 1, 1, 1, 0, -1] : List Int32).getD j 0
def sm_E (g : sm_G) (M : sm_M) : Prop := M.1[0]? = some (.inl (.int, 8)) ∧ M.1[1]? = some (.inl (.int, 8)) ∧ M.1[2]? = some (.inl (.int, g.2.2.1)) ∧ M.2.1 0 = sm_sx ∧ M.2.1 1 = sm_sy ∧ M.2.1 2 = g.2.2.2.1
def sm_R (g : sm_G) (M : sm_M) (H : Heap) : Prop := sm_E g M ∧ va_P g.2.2.2.2.1 sm_cl (sm_w g M) H ∧ va_D (sm_A g) (sm_w g M)
def sm_tys (g : sm_G) : List (ClassId × FieldType) := [.int, .long, .byte, .boolean, .array .int, .array .byte, .object "TwoFliers$Sign"].map (fun t => (g.2.2.2.2.2 t, t))
/-- links to private members of nest mates -/
def sm_nl : List (String × Nat × MethodName × String) := [("TwoFliers", 28, ⟨"TwoFliers$Odds", "<init>", "()V"⟩, "TwoFliers"), ("TwoFliers$Book", 21, ⟨"TwoFliers$Sign", "<init>", "()V"⟩, "TwoFliers"), ("TwoFliers", 53, ⟨"TwoFliers$Reader", "<init>", "()V"⟩, "TwoFliers"), ("TwoFliers", 60, ⟨"TwoFliers$Ship", "<init>", "()V"⟩, "TwoFliers"), ("TwoFliers$Sign", 30, ⟨"TwoFliers", "isWithin", "(II)Z"⟩, "TwoFliers"), ("TwoFliers$Plane", 43, ⟨"TwoFliers", "isWithin", "(II)Z"⟩, "TwoFliers")]
def sm_Nn (U : State) : Prop := (∀ q ∈ sm_nl, va_Nw (.methodLinkNest q.1 q.2.1 q.2.2.1 q.2.2.2) U) ∧ va_AO "TwoFliers$Sign" U ∧ (Cond.arrayOver (.array .int)).before #[] U = true ∧ (Cond.arrayOver (.array .byte)).before #[] U = true
theorem sm_Nn.warm {u U : State} (hW : u.WarmedH U.vm) (h : sm_Nn u) : sm_Nn U := ⟨fun q hq => (h.1 q hq).warmM hW, h.2.1.moved hW.alike, over_moved hW.alike h.2.2.1, over_moved hW.alike h.2.2.2⟩
theorem sm_Nn.same {u U : State} (hv : u.vm = U.vm) (h : sm_Nn u) : sm_Nn U := by
  have ha : u.vm.Alike U.vm := hv ▸ Vm.Alike.refl u.vm
  exact ⟨fun q hq => va_Nw.same rfl hv (h.1 q hq), h.2.1.moved ha, over_moved ha h.2.2.1, over_moved ha h.2.2.2⟩
def sm_X (g : sm_G) (U : State) (H : Heap) : Prop := va_K g.2.2.2.2.1 sm_cl (sm_tys g) U ∧ va_Z "TwoFliers$Chart" "STEP_X" "[I" (.ref (g.1 0)) (sm_A g) U H ∧ va_Z "TwoFliers$Chart" "STEP_Y" "[I" (.ref (g.1 1)) (sm_A g) U H ∧ va_T .int (g.1 0) 8 (fun j => .int (sm_sx j)) (sm_A g) U H ∧ va_T .int (g.1 1) 8 (fun j => .int (sm_sy j)) (sm_A g) U H ∧ va_X (g.1 2) g.2.2.1 g.2.2.2.1 U H ∧ g.1 2 < H.size ∧ ¬ sm_A g (g.1 2) ∧ sm_Nn U
theorem sm_X.kept {g : sm_G} {U : State} {H H1 : Heap} (h : sm_X g U H) (hz : H.size ≤ H1.size) (hq : ∀ a : Nat, a < H.size → ¬ sm_A g a → H1[a]? = H[a]?) : sm_X g U H1 := by
  obtain ⟨h1, h2, h3, h4, h5, h6, h7, h8, h9⟩ := h
  exact ⟨h1, h2.kept hq, h3.kept hq, h4.kept hq, h5.kept hq, h6.kept (hq _ h7 h8), Nat.lt_of_lt_of_le h7 hz, h8, h9⟩
theorem sm_X.moved {g : sm_G} {u U : State} {H : Heap} (hvm : u.vm.Alike U.vm) (hn : sm_Nn U) (h : sm_X g u H) : sm_X g U H := by
  obtain ⟨h1, h2, h3, h4, h5, h6, h7, h8, h9⟩ := h
  exact ⟨h1.moved hvm, h2.moved hvm, h3.moved hvm, h4.moved hvm, h5.moved hvm, h6.moved hvm, h7, h8, hn⟩
theorem sm_X.warm {g : sm_G} {u U : State} {H : Heap} (hW : u.WarmedH U.vm) (h : sm_X g u H) : sm_X g U H := h.moved hW.alike (h.2.2.2.2.2.2.2.2.warm hW)
/-- a method: name, bytes, locals, what it returns; frames, cells, slots that it may take -/
abbrev sm_K : Type := MethodName × ByteArray × Nat × Option FieldType × Nat × Nat × Nat
/-- a method's activation: the machine, its code, the tables, its room -/
def sm_C (k : sm_K) (g : sm_G) (p : Program) (R : Room) (s : State) (m : MethodId) (args : Array Value) (meth : Method) (c : Code) : Prop :=
  p.tables.exec = Jvm.exec ∧ c.code = k.2.1 ∧ meth.sig.returnType = k.2.2.2.1 ∧ c.maxLocals = k.2.2.1 ∧ s.vm.findClass k.1.cls = some m.cls ∧ (∀ w ∈ sm_tb, w.before args s = true) ∧ meth.locks = false ∧ meth.name = k.1.name ∧ g.2.1 ≤ s.heap.size ∧ sm_X g s s.heap ∧ k.2.2.2.2.1 ≤ R.frames ∧ 64 * k.2.2.2.2.1 ≤ R.locals ∧ k.2.2.2.2.2.1 ≤ R.cells ∧ k.2.2.2.2.2.2 ≤ R.slots
/-- the locals that are known -/
def sm_L (g : sm_G) (n : Nat) (lf : List (Option Value)) (ls : Array Slot) : Prop := ls.size = n ∧ lv_wf ls ∧ ∀ (i : Nat) (v : Value), lf[i]? = some (some v) → ls[i]? = some (.val (sm_tv g v))
def sm_ri (v : Option Value) : Instr := match v with
  | some (.int _) => .ireturn
  | some (.long _) => .lreturn
  | _ => .return_
/-- a grown map of the cells' places: the same on the old ones; a method that makes nothing leaves it -/
def sm_ext (k : sm_K) (n : Nat) (g g' : sm_G) : Prop := (∀ i, i < n → g'.1 i = g.1 i) ∧ g'.2 = g.2 ∧ (k.2.2.2.2.2.1 = 0 → g' = g)
/-- what is wanted at the end is had wherever the method returns with r -/
def sm_Q (k : sm_K) (n : Nat) (g : sm_G) (p : Program) (l : Launch) (e : Env) (R : Room) (s : State) (m : MethodId) (args : Array Value) (below : List Frame) (meth : Method) (c : Code) (Q : State → Prop) (r : Option Value × sm_M) : Prop :=
  ∀ (g' : sm_G) (H : Heap) (locs : List Loc) (ls : Array Slot) (pc cells slots : Nat), sm_ext k n g g' → sm_R g' r.2 H → va_S (sm_A g) s.heap H locs → cells ≤ k.2.2.2.2.2.1 → slots ≤ k.2.2.2.2.2.2 → decode k.2.1 pc = .ok (sm_ri r.1, 1) → (∀ v, r.1 = some (.int v) → k.2.2.2.1 = some .boolean → v = 0 ∨ v = 1) → W p l e R s m args below meth c H locs cells slots Q (F0 m pc ls r.1.toList)
/-- THE WORTH OF A PIECE OF CODE: from here on, with these locals, this stack, this memory, the method returns as o tells (if o tells anything) -/
def sm_S {ρ : Type} (j : ρ → Option Value × sm_M) (k : sm_K) (cells slots pc : Nat) (lf : List (Option Value)) (st : List Value) (M : sm_M) (o : Option ρ) : Prop :=
  ∀ r : ρ, o = some r → ∀ (n : Nat) (g0 g : sm_G) (p : Program) (l : Launch) (e : Env) (R : Room) (s : State) (m : MethodId) (args : Array Value) (below : List Frame) (meth : Method) (c : Code) (Q : State → Prop), sm_C k g p R s m args meth c → sm_ext k n g0 g → n ≤ M.1.length → sm_Q k n g0 p l e R s m args below meth c Q (j r) →
    ∀ (H : Heap) (locs : List Loc) (ls : Array Slot), sm_R g M H → va_S (sm_A g) s.heap H locs → sm_L g k.2.2.1 lf ls → W p l e R s m args below meth c H locs cells slots Q (F0 m pc ls (st.map (sm_tv g)))
def sm_ji : Int32 × sm_M → Option Value × sm_M := fun q => (some (.int q.1), q.2)
def sm_jl : Int64 × sm_M → Option Value × sm_M := fun q => (some (.long q.1), q.2)
def sm_jv : sm_M → Option Value × sm_M := fun q => (none, q)
end
section
section
variable {ρ : Type} {j : ρ → Option Value × sm_M} {k : sm_K} {cs sl pc : Nat} {lf lf2 : List (Option Value)} {st : List Value} {M : sm_M} {o o1 o2 : Option ρ}
theorem sd_iconst {z : Int} (v : Int32) (hd : decode k.2.1 pc = .ok (.iconst z, 1)) (hv : Int32.ofInt z = v) (h : sm_S j k cs sl (pc + 1) lf (.int v :: st) M o) : sm_S j k cs sl pc lf st M o := by
  intro r hr n g0 g p l e R s m args below meth c Q hC hx hn hQ H locs ls hM hS hL
  exact lv_iconst hC.1 hC.2.1 hd hv (h r hr n g0 g p l e R s m args below meth c Q hC hx hn hQ H locs ls hM hS hL)
theorem sd_bipush {z : Int} (v : Int32) (hd : decode k.2.1 pc = .ok (.bipush z, 2)) (hv : (Int8.ofInt z).toInt32 = v) (h : sm_S j k cs sl (pc + 2) lf (.int v :: st) M o) : sm_S j k cs sl pc lf st M o := by
  intro r hr n g0 g p l e R s m args below meth c Q hC hx hn hQ H locs ls hM hS hL
  exact lv_bipush hC.1 hC.2.1 hd hv (h r hr n g0 g p l e R s m args below meth c Q hC hx hn hQ H locs ls hM hS hL)
theorem sd_sipush {z : Int} (v : Int32) (hd : decode k.2.1 pc = .ok (.sipush z, 3)) (hv : (Int16.ofInt z).toInt32 = v) (h : sm_S j k cs sl (pc + 3) lf (.int v :: st) M o) : sm_S j k cs sl pc lf st M o := by
  intro r hr n g0 g p l e R s m args below meth c Q hC hx hn hQ H locs ls hM hS hL
  exact lv_sipush hC.1 hC.2.1 hd hv (h r hr n g0 g p l e R s m args below meth c Q hC hx hn hQ H locs ls hM hS hL)
theorem sd_lconst {z : Fin 2} (v : Int64) (hd : decode k.2.1 pc = .ok (.lconst z, 1)) (hv : Int64.ofNat (z : Nat) = v) (h : sm_S j k cs sl (pc + 1) lf (.long v :: st) M o) : sm_S j k cs sl pc lf st M o := by
  intro r hr n g0 g p l e R s m args below meth c Q hC hx hn hQ H locs ls hM hS hL
  exact lv_lconst hC.1 hC.2.1 hd hv (h r hr n g0 g p l e R s m args below meth c Q hC hx hn hQ H locs ls hM hS hL)
theorem sd_ldc {i : Nat} {v : Int32} (hc : Cond.constant k.1.cls i v ∈ sm_tb) (hd : decode k.2.1 pc = .ok (.ldc i, 2)) (h : sm_S j k cs sl (pc + 2) lf (.int v :: st) M o) : sm_S j k cs sl pc lf st M o := by
  intro r hr n g0 g p l e R s m args below meth c Q hC hx hn hQ H locs ls hM hS hL
  exact lv_ldc hC.1 hC.2.1 hC.2.2.2.2.1 (hC.2.2.2.2.2.1 _ hc) hd (h r hr n g0 g p l e R s m args below meth c Q hC hx hn hQ H locs ls hM hS hL)
theorem sd_ldcw {i : Nat} {v : Int32} (hc : Cond.constant k.1.cls i v ∈ sm_tb) (hd : decode k.2.1 pc = .ok (.ldc_w i, 3)) (h : sm_S j k cs sl (pc + 3) lf (.int v :: st) M o) : sm_S j k cs sl pc lf st M o := by
  intro r hr n g0 g p l e R s m args below meth c Q hC hx hn hQ H locs ls hM hS hL
  exact lv_ldcw hC.1 hC.2.1 hC.2.2.2.2.1 (hC.2.2.2.2.2.1 _ hc) hd (h r hr n g0 g p l e R s m args below meth c Q hC hx hn hQ H locs ls hM hS hL)
theorem sd_ldc2 {i : Nat} {v : Int64} (hc : Cond.constantLong k.1.cls i v ∈ sm_tb) (hd : decode k.2.1 pc = .ok (.ldc2_w i, 3)) (h : sm_S j k cs sl (pc + 3) lf (.long v :: st) M o) : sm_S j k cs sl pc lf st M o := by
  intro r hr n g0 g p l e R s m args below meth c Q hC hx hn hQ H locs ls hM hS hL
  exact lv_ldc2 hC.1 hC.2.1 hC.2.2.2.2.1 (hC.2.2.2.2.2.1 _ hc) hd (h r hr n g0 g p l e R s m args below meth c Q hC hx hn hQ H locs ls hM hS hL)
theorem sd_null (hd : decode k.2.1 pc = .ok (.aconst_null, 1)) (h : sm_S j k cs sl (pc + 1) lf (.null :: st) M o) : sm_S j k cs sl pc lf st M o := by
  intro r hr n g0 g p l e R s m args below meth c Q hC hx hn hQ H locs ls hM hS hL
  exact lv_null hC.1 hC.2.1 hd (h r hr n g0 g p l e R s m args below meth c Q hC hx hn hQ H locs ls hM hS hL)
theorem sd_iload_n {z : Fin 4} {x : Int32} (hd : decode k.2.1 pc = .ok (.iload_n z, 1)) (hl : lf[(z : Nat)]? = some (some (.int x))) (h : sm_S j k cs sl (pc + 1) lf (.int x :: st) M o) : sm_S j k cs sl pc lf st M o := by
  intro r hr n g0 g p l e R s m args below meth c Q hC hx hn hQ H locs ls hM hS hL
  exact lv_iload_n hC.1 hC.2.1 hd rfl (hL.2.2 _ _ hl) (h r hr n g0 g p l e R s m args below meth c Q hC hx hn hQ H locs ls hM hS hL)
theorem sd_iload {i : Nat} {x : Int32} (hd : decode k.2.1 pc = .ok (.iload i, 2)) (hl : lf[i]? = some (some (.int x))) (h : sm_S j k cs sl (pc + 2) lf (.int x :: st) M o) : sm_S j k cs sl pc lf st M o := by
  intro r hr n g0 g p l e R s m args below meth c Q hC hx hn hQ H locs ls hM hS hL
  exact lv_iload hC.1 hC.2.1 hd (hL.2.2 _ _ hl) (h r hr n g0 g p l e R s m args below meth c Q hC hx hn hQ H locs ls hM hS hL)
theorem sd_lload_n {z : Fin 4} {x : Int64} (hd : decode k.2.1 pc = .ok (.lload_n z, 1)) (hl : lf[(z : Nat)]? = some (some (.long x))) (h : sm_S j k cs sl (pc + 1) lf (.long x :: st) M o) : sm_S j k cs sl pc lf st M o := by
  intro r hr n g0 g p l e R s m args below meth c Q hC hx hn hQ H locs ls hM hS hL
  exact lv_lload_n hC.1 hC.2.1 hd rfl (hL.2.2 _ _ hl) (h r hr n g0 g p l e R s m args below meth c Q hC hx hn hQ H locs ls hM hS hL)
theorem sd_lload {i : Nat} {x : Int64} (hd : decode k.2.1 pc = .ok (.lload i, 2)) (hl : lf[i]? = some (some (.long x))) (h : sm_S j k cs sl (pc + 2) lf (.long x :: st) M o) : sm_S j k cs sl pc lf st M o := by
  intro r hr n g0 g p l e R s m args below meth c Q hC hx hn hQ H locs ls hM hS hL
  exact lv_lload hC.1 hC.2.1 hd (hL.2.2 _ _ hl) (h r hr n g0 g p l e R s m args below meth c Q hC hx hn hQ H locs ls hM hS hL)
theorem sd_aload_n {z : Fin 4} {x : Nat} (hd : decode k.2.1 pc = .ok (.aload_n z, 1)) (hl : lf[(z : Nat)]? = some (some (.ref x))) (h : sm_S j k cs sl (pc + 1) lf (.ref x :: st) M o) : sm_S j k cs sl pc lf st M o := by
  intro r hr n g0 g p l e R s m args below meth c Q hC hx hn hQ H locs ls hM hS hL
  exact lv_aload_n hC.1 hC.2.1 hd rfl (hL.2.2 _ _ hl) (h r hr n g0 g p l e R s m args below meth c Q hC hx hn hQ H locs ls hM hS hL)
theorem sd_aload {i : Nat} {x : Nat} (hd : decode k.2.1 pc = .ok (.aload i, 2)) (hl : lf[i]? = some (some (.ref x))) (h : sm_S j k cs sl (pc + 2) lf (.ref x :: st) M o) : sm_S j k cs sl pc lf st M o := by
  intro r hr n g0 g p l e R s m args below meth c Q hC hx hn hQ H locs ls hM hS hL
  exact lv_aload hC.1 hC.2.1 hd (hL.2.2 _ _ hl) (h r hr n g0 g p l e R s m args below meth c Q hC hx hn hQ H locs ls hM hS hL)
theorem sd_iadd {x y : Int32} (hd : decode k.2.1 pc = .ok (.iadd, 1)) (h : sm_S j k cs sl (pc + 1) lf (.int (x + y) :: st) M o) : sm_S j k cs sl pc lf (.int y :: .int x :: st) M o := by
  intro r hr n g0 g p l e R s m args below meth c Q hC hx hn hQ H locs ls hM hS hL
  exact lv_iadd hC.1 hC.2.1 hd (h r hr n g0 g p l e R s m args below meth c Q hC hx hn hQ H locs ls hM hS hL)
theorem sd_isub {x y : Int32} (hd : decode k.2.1 pc = .ok (.isub, 1)) (h : sm_S j k cs sl (pc + 1) lf (.int (x - y) :: st) M o) : sm_S j k cs sl pc lf (.int y :: .int x :: st) M o := by
  intro r hr n g0 g p l e R s m args below meth c Q hC hx hn hQ H locs ls hM hS hL
  exact lv_isub hC.1 hC.2.1 hd (h r hr n g0 g p l e R s m args below meth c Q hC hx hn hQ H locs ls hM hS hL)
theorem sd_imul {x y : Int32} (hd : decode k.2.1 pc = .ok (.imul, 1)) (h : sm_S j k cs sl (pc + 1) lf (.int (x * y) :: st) M o) : sm_S j k cs sl pc lf (.int y :: .int x :: st) M o := by
  intro r hr n g0 g p l e R s m args below meth c Q hC hx hn hQ H locs ls hM hS hL
  exact lv_imul hC.1 hC.2.1 hd (h r hr n g0 g p l e R s m args below meth c Q hC hx hn hQ H locs ls hM hS hL)
theorem sd_iand {x y : Int32} (hd : decode k.2.1 pc = .ok (.iand, 1)) (h : sm_S j k cs sl (pc + 1) lf (.int (x &&& y) :: st) M o) : sm_S j k cs sl pc lf (.int y :: .int x :: st) M o := by
  intro r hr n g0 g p l e R s m args below meth c Q hC hx hn hQ H locs ls hM hS hL
  exact lv_iand hC.1 hC.2.1 hd (h r hr n g0 g p l e R s m args below meth c Q hC hx hn hQ H locs ls hM hS hL)
theorem sd_ior {x y : Int32} (hd : decode k.2.1 pc = .ok (.ior, 1)) (h : sm_S j k cs sl (pc + 1) lf (.int (x ||| y) :: st) M o) : sm_S j k cs sl pc lf (.int y :: .int x :: st) M o := by
  intro r hr n g0 g p l e R s m args below meth c Q hC hx hn hQ H locs ls hM hS hL
  exact lv_ior hC.1 hC.2.1 hd (h r hr n g0 g p l e R s m args below meth c Q hC hx hn hQ H locs ls hM hS hL)
theorem sd_ishl {x y : Int32} (hd : decode k.2.1 pc = .ok (.ishl, 1)) (h : sm_S j k cs sl (pc + 1) lf (.int (x <<< (y &&& 31)) :: st) M o) : sm_S j k cs sl pc lf (.int y :: .int x :: st) M o := by
  intro r hr n g0 g p l e R s m args below meth c Q hC hx hn hQ H locs ls hM hS hL
  exact lv_ishl hC.1 hC.2.1 hd (h r hr n g0 g p l e R s m args below meth c Q hC hx hn hQ H locs ls hM hS hL)
theorem sd_ishr {x y : Int32} (hd : decode k.2.1 pc = .ok (.ishr, 1)) (h : sm_S j k cs sl (pc + 1) lf (.int (x >>> (y &&& 31)) :: st) M o) : sm_S j k cs sl pc lf (.int y :: .int x :: st) M o := by
  intro r hr n g0 g p l e R s m args below meth c Q hC hx hn hQ H locs ls hM hS hL
  exact lv_ishr hC.1 hC.2.1 hd (h r hr n g0 g p l e R s m args below meth c Q hC hx hn hQ H locs ls hM hS hL)
def sm_us (x y : Int32) : Int32 := (x.toUInt32 >>> (y.toUInt32 &&& Int32.toUInt32 31)).toInt32
theorem sd_iushr {x y : Int32} (hd : decode k.2.1 pc = .ok (.iushr, 1)) (h : sm_S j k cs sl (pc + 1) lf (.int (sm_us x y) :: st) M o) : sm_S j k cs sl pc lf (.int y :: .int x :: st) M o := by
  intro r hr n g0 g p l e R s m args below meth c Q hC hx hn hQ H locs ls hM hS hL
  exact lv_iushr hC.1 hC.2.1 hd rfl (h r hr n g0 g p l e R s m args below meth c Q hC hx hn hQ H locs ls hM hS hL)
def sm_ir (x y : Int32) : Int32 := x - x / y * y
def sm_lr (x y : Int64) : Int64 := x - x / y * y
theorem sd_idiv {x y : Int32} (hd : decode k.2.1 pc = .ok (.idiv, 1)) (hy : ¬ y = 0) (h : sm_S j k cs sl (pc + 1) lf (.int (x / y) :: st) M o) : sm_S j k cs sl pc lf (.int y :: .int x :: st) M o := by
  intro r hr n g0 g p l e R s m args below meth c Q hC hx hn hQ H locs ls hM hS hL
  exact lv_idiv hC.1 hC.2.1 hd hy (h r hr n g0 g p l e R s m args below meth c Q hC hx hn hQ H locs ls hM hS hL)
theorem sd_irem {x y : Int32} (hd : decode k.2.1 pc = .ok (.irem, 1)) (hy : ¬ y = 0) (h : sm_S j k cs sl (pc + 1) lf (.int (sm_ir x y) :: st) M o) : sm_S j k cs sl pc lf (.int y :: .int x :: st) M o := by
  intro r hr n g0 g p l e R s m args below meth c Q hC hx hn hQ H locs ls hM hS hL
  exact lv_irem hC.1 hC.2.1 hd hy (h r hr n g0 g p l e R s m args below meth c Q hC hx hn hQ H locs ls hM hS hL)
theorem sd_ladd {x y : Int64} (hd : decode k.2.1 pc = .ok (.ladd, 1)) (h : sm_S j k cs sl (pc + 1) lf (.long (x + y) :: st) M o) : sm_S j k cs sl pc lf (.long y :: .long x :: st) M o := by
  intro r hr n g0 g p l e R s m args below meth c Q hC hx hn hQ H locs ls hM hS hL
  exact lv_ladd hC.1 hC.2.1 hd (h r hr n g0 g p l e R s m args below meth c Q hC hx hn hQ H locs ls hM hS hL)
theorem sd_lsub {x y : Int64} (hd : decode k.2.1 pc = .ok (.lsub, 1)) (h : sm_S j k cs sl (pc + 1) lf (.long (x - y) :: st) M o) : sm_S j k cs sl pc lf (.long y :: .long x :: st) M o := by
  intro r hr n g0 g p l e R s m args below meth c Q hC hx hn hQ H locs ls hM hS hL
  exact lv_lsub hC.1 hC.2.1 hd (h r hr n g0 g p l e R s m args below meth c Q hC hx hn hQ H locs ls hM hS hL)
theorem sd_lmul {x y : Int64} (hd : decode k.2.1 pc = .ok (.lmul, 1)) (h : sm_S j k cs sl (pc + 1) lf (.long (x * y) :: st) M o) : sm_S j k cs sl pc lf (.long y :: .long x :: st) M o := by
  intro r hr n g0 g p l e R s m args below meth c Q hC hx hn hQ H locs ls hM hS hL
  exact lv_lmul hC.1 hC.2.1 hd (h r hr n g0 g p l e R s m args below meth c Q hC hx hn hQ H locs ls hM hS hL)
theorem sd_ldiv {x y : Int64} (hd : decode k.2.1 pc = .ok (.ldiv, 1)) (hy : ¬ y = 0) (h : sm_S j k cs sl (pc + 1) lf (.long (x / y) :: st) M o) : sm_S j k cs sl pc lf (.long y :: .long x :: st) M o := by
  intro r hr n g0 g p l e R s m args below meth c Q hC hx hn hQ H locs ls hM hS hL
  exact lv_ldiv hC.1 hC.2.1 hd hy (h r hr n g0 g p l e R s m args below meth c Q hC hx hn hQ H locs ls hM hS hL)
theorem sd_lrem {x y : Int64} (hd : decode k.2.1 pc = .ok (.lrem, 1)) (hy : ¬ y = 0) (h : sm_S j k cs sl (pc + 1) lf (.long (sm_lr x y) :: st) M o) : sm_S j k cs sl pc lf (.long y :: .long x :: st) M o := by
  intro r hr n g0 g p l e R s m args below meth c Q hC hx hn hQ H locs ls hM hS hL
  exact lv_lrem hC.1 hC.2.1 hd hy (h r hr n g0 g p l e R s m args below meth c Q hC hx hn hQ H locs ls hM hS hL)
def sm_ls (x : Int64) (y : Int32) : Int64 := x <<< (y.toInt64 &&& 63)
theorem sd_lshl {x : Int64} {y : Int32} (hd : decode k.2.1 pc = .ok (.lshl, 1)) (h : sm_S j k cs sl (pc + 1) lf (.long (sm_ls x y) :: st) M o) : sm_S j k cs sl pc lf (.int y :: .long x :: st) M o := by
  intro r hr n g0 g p l e R s m args below meth c Q hC hx hn hQ H locs ls hM hS hL
  exact lv_lshl hC.1 hC.2.1 hd rfl (h r hr n g0 g p l e R s m args below meth c Q hC hx hn hQ H locs ls hM hS hL)
theorem sd_ineg {x : Int32} (hd : decode k.2.1 pc = .ok (.ineg, 1)) (h : sm_S j k cs sl (pc + 1) lf (.int (-x) :: st) M o) : sm_S j k cs sl pc lf (.int x :: st) M o := by
  intro r hr n g0 g p l e R s m args below meth c Q hC hx hn hQ H locs ls hM hS hL
  exact lv_ineg hC.1 hC.2.1 hd (h r hr n g0 g p l e R s m args below meth c Q hC hx hn hQ H locs ls hM hS hL)
theorem sd_lneg {x : Int64} (hd : decode k.2.1 pc = .ok (.lneg, 1)) (h : sm_S j k cs sl (pc + 1) lf (.long (-x) :: st) M o) : sm_S j k cs sl pc lf (.long x :: st) M o := by
  intro r hr n g0 g p l e R s m args below meth c Q hC hx hn hQ H locs ls hM hS hL
  exact lv_lneg hC.1 hC.2.1 hd (h r hr n g0 g p l e R s m args below meth c Q hC hx hn hQ H locs ls hM hS hL)
theorem sd_i2l {x : Int32} (hd : decode k.2.1 pc = .ok (.i2l, 1)) (h : sm_S j k cs sl (pc + 1) lf (.long x.toInt64 :: st) M o) : sm_S j k cs sl pc lf (.int x :: st) M o := by
  intro r hr n g0 g p l e R s m args below meth c Q hC hx hn hQ H locs ls hM hS hL
  exact lv_i2l hC.1 hC.2.1 hd rfl (h r hr n g0 g p l e R s m args below meth c Q hC hx hn hQ H locs ls hM hS hL)
theorem sd_l2i {x : Int64} (hd : decode k.2.1 pc = .ok (.l2i, 1)) (h : sm_S j k cs sl (pc + 1) lf (.int x.toInt32 :: st) M o) : sm_S j k cs sl pc lf (.long x :: st) M o := by
  intro r hr n g0 g p l e R s m args below meth c Q hC hx hn hQ H locs ls hM hS hL
  exact lv_l2i hC.1 hC.2.1 hd rfl (h r hr n g0 g p l e R s m args below meth c Q hC hx hn hQ H locs ls hM hS hL)
theorem sd_i2b {x : Int32} (hd : decode k.2.1 pc = .ok (.i2b, 1)) (h : sm_S j k cs sl (pc + 1) lf (.int x.toInt8.toInt32 :: st) M o) : sm_S j k cs sl pc lf (.int x :: st) M o := by
  intro r hr n g0 g p l e R s m args below meth c Q hC hx hn hQ H locs ls hM hS hL
  exact lv_i2b hC.1 hC.2.1 hd rfl (h r hr n g0 g p l e R s m args below meth c Q hC hx hn hQ H locs ls hM hS hL)
theorem sd_dup {v : Value} (hd : decode k.2.1 pc = .ok (.dup, 1)) (hv : v.category = 1) (h : sm_S j k cs sl (pc + 1) lf (v :: v :: st) M o) : sm_S j k cs sl pc lf (v :: st) M o := by
  intro r hr n g0 g p l e R s m args below meth c Q hC hx hn hQ H locs ls hM hS hL
  exact lv_dup hC.1 hC.2.1 hd ((sm_tv_cat g v).trans hv) (h r hr n g0 g p l e R s m args below meth c Q hC hx hn hQ H locs ls hM hS hL)
theorem sd_pop {v : Value} (hd : decode k.2.1 pc = .ok (.pop, 1)) (hv : v.category = 1) (h : sm_S j k cs sl (pc + 1) lf st M o) : sm_S j k cs sl pc lf (v :: st) M o := by
  intro r hr n g0 g p l e R s m args below meth c Q hC hx hn hQ H locs ls hM hS hL
  exact lv_pop hC.1 hC.2.1 hd ((sm_tv_cat g v).trans hv) (h r hr n g0 g p l e R s m args below meth c Q hC hx hn hQ H locs ls hM hS hL)
theorem sd_dup2 {u v : Value} (hd : decode k.2.1 pc = .ok (.dup2, 1)) (hu : u.category = 1) (hv : v.category = 1) (h : sm_S j k cs sl (pc + 1) lf (u :: v :: u :: v :: st) M o) : sm_S j k cs sl pc lf (u :: v :: st) M o := by
  intro r hr n g0 g p l e R s m args below meth c Q hC hx hn hQ H locs ls hM hS hL
  exact lv_dup2_11 hC.1 hC.2.1 hd ((sm_tv_cat g u).trans hu) ((sm_tv_cat g v).trans hv) (h r hr n g0 g p l e R s m args below meth c Q hC hx hn hQ H locs ls hM hS hL)
theorem sd_goto {off : Int} (tgt : Nat) (hd : decode k.2.1 pc = .ok (.goto off, 3)) (ht : (pc : Int) + off = (tgt : Int)) (h : sm_S j k cs sl tgt lf st M o) : sm_S j k cs sl pc lf st M o := by
  intro r hr n g0 g p l e R s m args below meth c Q hC hx hn hQ H locs ls hM hS hL
  exact lv_goto hC.1 hC.2.1 hd ht (h r hr n g0 g p l e R s m args below meth c Q hC hx hn hQ H locs ls hM hS hL)
theorem sd_if_lt {x : Int32} {off : Int} (tgt : Nat) (hd : decode k.2.1 pc = .ok (.ifCond .lt off, 3)) (ht : (pc : Int) + off = (tgt : Int)) (h1 : x < 0 → sm_S j k cs sl tgt lf st M o1) (h2 : ¬ x < 0 → sm_S j k cs sl (pc + 3) lf st M o2) : sm_S j k cs sl pc lf (.int x :: st) M (if x < 0 then o1 else o2) := by
  intro r hr n g0 g p l e R s m args below meth c Q hC hx hn hQ H locs ls hM hS hL
  exact lv_if_lt hC.1 hC.2.1 hd ht (fun q => h1 q r ((if_pos q).symm.trans hr) n g0 g p l e R s m args below meth c Q hC hx hn hQ H locs ls hM hS hL) (fun q => h2 q r ((if_neg q).symm.trans hr) n g0 g p l e R s m args below meth c Q hC hx hn hQ H locs ls hM hS hL)
theorem sd_if_ge {x : Int32} {off : Int} (tgt : Nat) (hd : decode k.2.1 pc = .ok (.ifCond .ge off, 3)) (ht : (pc : Int) + off = (tgt : Int)) (h1 : 0 ≤ x → sm_S j k cs sl tgt lf st M o1) (h2 : ¬ 0 ≤ x → sm_S j k cs sl (pc + 3) lf st M o2) : sm_S j k cs sl pc lf (.int x :: st) M (if 0 ≤ x then o1 else o2) := by
  intro r hr n g0 g p l e R s m args below meth c Q hC hx hn hQ H locs ls hM hS hL
  exact lv_if_ge hC.1 hC.2.1 hd ht (fun q => h1 q r ((if_pos q).symm.trans hr) n g0 g p l e R s m args below meth c Q hC hx hn hQ H locs ls hM hS hL) (fun q => h2 q r ((if_neg q).symm.trans hr) n g0 g p l e R s m args below meth c Q hC hx hn hQ H locs ls hM hS hL)
theorem sd_if_gt {x : Int32} {off : Int} (tgt : Nat) (hd : decode k.2.1 pc = .ok (.ifCond .gt off, 3)) (ht : (pc : Int) + off = (tgt : Int)) (h1 : 0 < x → sm_S j k cs sl tgt lf st M o1) (h2 : ¬ 0 < x → sm_S j k cs sl (pc + 3) lf st M o2) : sm_S j k cs sl pc lf (.int x :: st) M (if 0 < x then o1 else o2) := by
  intro r hr n g0 g p l e R s m args below meth c Q hC hx hn hQ H locs ls hM hS hL
  exact lv_if_gt hC.1 hC.2.1 hd ht (fun q => h1 q r ((if_pos q).symm.trans hr) n g0 g p l e R s m args below meth c Q hC hx hn hQ H locs ls hM hS hL) (fun q => h2 q r ((if_neg q).symm.trans hr) n g0 g p l e R s m args below meth c Q hC hx hn hQ H locs ls hM hS hL)
theorem sd_if_le {x : Int32} {off : Int} (tgt : Nat) (hd : decode k.2.1 pc = .ok (.ifCond .le off, 3)) (ht : (pc : Int) + off = (tgt : Int)) (h1 : x ≤ 0 → sm_S j k cs sl tgt lf st M o1) (h2 : ¬ x ≤ 0 → sm_S j k cs sl (pc + 3) lf st M o2) : sm_S j k cs sl pc lf (.int x :: st) M (if x ≤ 0 then o1 else o2) := by
  intro r hr n g0 g p l e R s m args below meth c Q hC hx hn hQ H locs ls hM hS hL
  exact lv_if_le hC.1 hC.2.1 hd ht (fun q => h1 q r ((if_pos q).symm.trans hr) n g0 g p l e R s m args below meth c Q hC hx hn hQ H locs ls hM hS hL) (fun q => h2 q r ((if_neg q).symm.trans hr) n g0 g p l e R s m args below meth c Q hC hx hn hQ H locs ls hM hS hL)
theorem sd_if_eq {x : Int32} {off : Int} (tgt : Nat) (hd : decode k.2.1 pc = .ok (.ifCond .eq off, 3)) (ht : (pc : Int) + off = (tgt : Int)) (h1 : x = 0 → sm_S j k cs sl tgt lf st M o1) (h2 : ¬ x = 0 → sm_S j k cs sl (pc + 3) lf st M o2) : sm_S j k cs sl pc lf (.int x :: st) M (if x = 0 then o1 else o2) := by
  intro r hr n g0 g p l e R s m args below meth c Q hC hx hn hQ H locs ls hM hS hL
  exact lv_if_eq hC.1 hC.2.1 hd ht (fun q => h1 q r ((if_pos q).symm.trans hr) n g0 g p l e R s m args below meth c Q hC hx hn hQ H locs ls hM hS hL) (fun q => h2 q r ((if_neg q).symm.trans hr) n g0 g p l e R s m args below meth c Q hC hx hn hQ H locs ls hM hS hL)
theorem sd_if_ne {x : Int32} {off : Int} (tgt : Nat) (hd : decode k.2.1 pc = .ok (.ifCond .ne off, 3)) (ht : (pc : Int) + off = (tgt : Int)) (h1 : x = 0 → sm_S j k cs sl (pc + 3) lf st M o1) (h2 : ¬ x = 0 → sm_S j k cs sl tgt lf st M o2) : sm_S j k cs sl pc lf (.int x :: st) M (if x = 0 then o1 else o2) := by
  intro r hr n g0 g p l e R s m args below meth c Q hC hx hn hQ H locs ls hM hS hL
  exact lv_if_ne hC.1 hC.2.1 hd ht (fun q => h2 q r ((if_neg q).symm.trans hr) n g0 g p l e R s m args below meth c Q hC hx hn hQ H locs ls hM hS hL) (fun q => h1 q r ((if_pos q).symm.trans hr) n g0 g p l e R s m args below meth c Q hC hx hn hQ H locs ls hM hS hL)
theorem sd_ic_lt {x y : Int32} {off : Int} (tgt : Nat) (hd : decode k.2.1 pc = .ok (.if_icmp .lt off, 3)) (ht : (pc : Int) + off = (tgt : Int)) (h1 : x < y → sm_S j k cs sl tgt lf st M o1) (h2 : ¬ x < y → sm_S j k cs sl (pc + 3) lf st M o2) : sm_S j k cs sl pc lf (.int y :: .int x :: st) M (if x < y then o1 else o2) := by
  intro r hr n g0 g p l e R s m args below meth c Q hC hx hn hQ H locs ls hM hS hL
  exact lv_icmp_lt hC.1 hC.2.1 hd ht (fun q => h1 q r ((if_pos q).symm.trans hr) n g0 g p l e R s m args below meth c Q hC hx hn hQ H locs ls hM hS hL) (fun q => h2 q r ((if_neg q).symm.trans hr) n g0 g p l e R s m args below meth c Q hC hx hn hQ H locs ls hM hS hL)
theorem sd_ic_ge {x y : Int32} {off : Int} (tgt : Nat) (hd : decode k.2.1 pc = .ok (.if_icmp .ge off, 3)) (ht : (pc : Int) + off = (tgt : Int)) (h1 : y ≤ x → sm_S j k cs sl tgt lf st M o1) (h2 : ¬ y ≤ x → sm_S j k cs sl (pc + 3) lf st M o2) : sm_S j k cs sl pc lf (.int y :: .int x :: st) M (if y ≤ x then o1 else o2) := by
  intro r hr n g0 g p l e R s m args below meth c Q hC hx hn hQ H locs ls hM hS hL
  exact lv_icmp_ge hC.1 hC.2.1 hd ht (fun q => h1 q r ((if_pos q).symm.trans hr) n g0 g p l e R s m args below meth c Q hC hx hn hQ H locs ls hM hS hL) (fun q => h2 q r ((if_neg q).symm.trans hr) n g0 g p l e R s m args below meth c Q hC hx hn hQ H locs ls hM hS hL)
theorem sd_ic_gt {x y : Int32} {off : Int} (tgt : Nat) (hd : decode k.2.1 pc = .ok (.if_icmp .gt off, 3)) (ht : (pc : Int) + off = (tgt : Int)) (h1 : y < x → sm_S j k cs sl tgt lf st M o1) (h2 : ¬ y < x → sm_S j k cs sl (pc + 3) lf st M o2) : sm_S j k cs sl pc lf (.int y :: .int x :: st) M (if y < x then o1 else o2) := by
  intro r hr n g0 g p l e R s m args below meth c Q hC hx hn hQ H locs ls hM hS hL
  exact lv_icmp_gt hC.1 hC.2.1 hd ht (fun q => h1 q r ((if_pos q).symm.trans hr) n g0 g p l e R s m args below meth c Q hC hx hn hQ H locs ls hM hS hL) (fun q => h2 q r ((if_neg q).symm.trans hr) n g0 g p l e R s m args below meth c Q hC hx hn hQ H locs ls hM hS hL)
theorem sd_ic_le {x y : Int32} {off : Int} (tgt : Nat) (hd : decode k.2.1 pc = .ok (.if_icmp .le off, 3)) (ht : (pc : Int) + off = (tgt : Int)) (h1 : x ≤ y → sm_S j k cs sl tgt lf st M o1) (h2 : ¬ x ≤ y → sm_S j k cs sl (pc + 3) lf st M o2) : sm_S j k cs sl pc lf (.int y :: .int x :: st) M (if x ≤ y then o1 else o2) := by
  intro r hr n g0 g p l e R s m args below meth c Q hC hx hn hQ H locs ls hM hS hL
  exact lv_icmp_le hC.1 hC.2.1 hd ht (fun q => h1 q r ((if_pos q).symm.trans hr) n g0 g p l e R s m args below meth c Q hC hx hn hQ H locs ls hM hS hL) (fun q => h2 q r ((if_neg q).symm.trans hr) n g0 g p l e R s m args below meth c Q hC hx hn hQ H locs ls hM hS hL)
theorem sd_ic_eq {x y : Int32} {off : Int} (tgt : Nat) (hd : decode k.2.1 pc = .ok (.if_icmp .eq off, 3)) (ht : (pc : Int) + off = (tgt : Int)) (h1 : x = y → sm_S j k cs sl tgt lf st M o1) (h2 : ¬ x = y → sm_S j k cs sl (pc + 3) lf st M o2) : sm_S j k cs sl pc lf (.int y :: .int x :: st) M (if x = y then o1 else o2) := by
  intro r hr n g0 g p l e R s m args below meth c Q hC hx hn hQ H locs ls hM hS hL
  exact lv_icmp_eq hC.1 hC.2.1 hd ht (fun q => h1 q r ((if_pos q).symm.trans hr) n g0 g p l e R s m args below meth c Q hC hx hn hQ H locs ls hM hS hL) (fun q => h2 q r ((if_neg q).symm.trans hr) n g0 g p l e R s m args below meth c Q hC hx hn hQ H locs ls hM hS hL)
theorem sd_ic_ne {x y : Int32} {off : Int} (tgt : Nat) (hd : decode k.2.1 pc = .ok (.if_icmp .ne off, 3)) (ht : (pc : Int) + off = (tgt : Int)) (h1 : x = y → sm_S j k cs sl (pc + 3) lf st M o1) (h2 : ¬ x = y → sm_S j k cs sl tgt lf st M o2) : sm_S j k cs sl pc lf (.int y :: .int x :: st) M (if x = y then o1 else o2) := by
  intro r hr n g0 g p l e R s m args below meth c Q hC hx hn hQ H locs ls hM hS hL
  exact lv_icmp_ne hC.1 hC.2.1 hd ht (fun q => h2 q r ((if_neg q).symm.trans hr) n g0 g p l e R s m args below meth c Q hC hx hn hQ H locs ls hM hS hL) (fun q => h1 q r ((if_pos q).symm.trans hr) n g0 g p l e R s m args below meth c Q hC hx hn hQ H locs ls hM hS hL)
theorem sd_lc_lt {x y : Int64} {off : Int} (tgt : Nat) (hd0 : decode k.2.1 pc = .ok (.lcmp, 1)) (hd : decode k.2.1 (pc + 1) = .ok (.ifCond .lt off, 3)) (ht : ((pc + 1 : Nat) : Int) + off = (tgt : Int)) (h1 : x < y → sm_S j k cs sl tgt lf st M o1) (h2 : ¬ x < y → sm_S j k cs sl (pc + 4) lf st M o2) : sm_S j k cs sl pc lf (.long y :: .long x :: st) M (if x < y then o1 else o2) := by
  intro r hr n g0 g p l e R s m args below meth c Q hC hx hn hQ H locs ls hM hS hL
  refine W.lcmp hC.1 hC.2.1 hd0 ?_
  exact lv_if_lt hC.1 hC.2.1 hd ht (fun q => h1 ((lg_cmp_lt x y).mp q) r ((if_pos ((lg_cmp_lt x y).mp q)).symm.trans hr) n g0 g p l e R s m args below meth c Q hC hx hn hQ H locs ls hM hS hL) (fun q => h2 (fun z => q ((lg_cmp_lt x y).mpr z)) r ((if_neg (fun z => q ((lg_cmp_lt x y).mpr z))).symm.trans hr) n g0 g p l e R s m args below meth c Q hC hx hn hQ H locs ls hM hS hL)
theorem sd_lc_ge {x y : Int64} {off : Int} (tgt : Nat) (hd0 : decode k.2.1 pc = .ok (.lcmp, 1)) (hd : decode k.2.1 (pc + 1) = .ok (.ifCond .ge off, 3)) (ht : ((pc + 1 : Nat) : Int) + off = (tgt : Int)) (h1 : y ≤ x → sm_S j k cs sl tgt lf st M o1) (h2 : ¬ y ≤ x → sm_S j k cs sl (pc + 4) lf st M o2) : sm_S j k cs sl pc lf (.long y :: .long x :: st) M (if y ≤ x then o1 else o2) := by
  intro r hr n g0 g p l e R s m args below meth c Q hC hx hn hQ H locs ls hM hS hL
  refine W.lcmp hC.1 hC.2.1 hd0 ?_
  exact lv_if_ge hC.1 hC.2.1 hd ht (fun q => h1 ((lg_cmp_ge x y).mp q) r ((if_pos ((lg_cmp_ge x y).mp q)).symm.trans hr) n g0 g p l e R s m args below meth c Q hC hx hn hQ H locs ls hM hS hL) (fun q => h2 (fun z => q ((lg_cmp_ge x y).mpr z)) r ((if_neg (fun z => q ((lg_cmp_ge x y).mpr z))).symm.trans hr) n g0 g p l e R s m args below meth c Q hC hx hn hQ H locs ls hM hS hL)
theorem sd_lc_gt {x y : Int64} {off : Int} (tgt : Nat) (hd0 : decode k.2.1 pc = .ok (.lcmp, 1)) (hd : decode k.2.1 (pc + 1) = .ok (.ifCond .gt off, 3)) (ht : ((pc + 1 : Nat) : Int) + off = (tgt : Int)) (h1 : y < x → sm_S j k cs sl tgt lf st M o1) (h2 : ¬ y < x → sm_S j k cs sl (pc + 4) lf st M o2) : sm_S j k cs sl pc lf (.long y :: .long x :: st) M (if y < x then o1 else o2) := by
  intro r hr n g0 g p l e R s m args below meth c Q hC hx hn hQ H locs ls hM hS hL
  refine W.lcmp hC.1 hC.2.1 hd0 ?_
  exact lv_if_gt hC.1 hC.2.1 hd ht (fun q => h1 ((lg_cmp_gt x y).mp q) r ((if_pos ((lg_cmp_gt x y).mp q)).symm.trans hr) n g0 g p l e R s m args below meth c Q hC hx hn hQ H locs ls hM hS hL) (fun q => h2 (fun z => q ((lg_cmp_gt x y).mpr z)) r ((if_neg (fun z => q ((lg_cmp_gt x y).mpr z))).symm.trans hr) n g0 g p l e R s m args below meth c Q hC hx hn hQ H locs ls hM hS hL)
theorem sd_lc_le {x y : Int64} {off : Int} (tgt : Nat) (hd0 : decode k.2.1 pc = .ok (.lcmp, 1)) (hd : decode k.2.1 (pc + 1) = .ok (.ifCond .le off, 3)) (ht : ((pc + 1 : Nat) : Int) + off = (tgt : Int)) (h1 : x ≤ y → sm_S j k cs sl tgt lf st M o1) (h2 : ¬ x ≤ y → sm_S j k cs sl (pc + 4) lf st M o2) : sm_S j k cs sl pc lf (.long y :: .long x :: st) M (if x ≤ y then o1 else o2) := by
  intro r hr n g0 g p l e R s m args below meth c Q hC hx hn hQ H locs ls hM hS hL
  refine W.lcmp hC.1 hC.2.1 hd0 ?_
  exact lv_if_le hC.1 hC.2.1 hd ht (fun q => h1 ((lg_cmp_le x y).mp q) r ((if_pos ((lg_cmp_le x y).mp q)).symm.trans hr) n g0 g p l e R s m args below meth c Q hC hx hn hQ H locs ls hM hS hL) (fun q => h2 (fun z => q ((lg_cmp_le x y).mpr z)) r ((if_neg (fun z => q ((lg_cmp_le x y).mpr z))).symm.trans hr) n g0 g p l e R s m args below meth c Q hC hx hn hQ H locs ls hM hS hL)
theorem sd_lc_eq {x y : Int64} {off : Int} (tgt : Nat) (hd0 : decode k.2.1 pc = .ok (.lcmp, 1)) (hd : decode k.2.1 (pc + 1) = .ok (.ifCond .eq off, 3)) (ht : ((pc + 1 : Nat) : Int) + off = (tgt : Int)) (h1 : x = y → sm_S j k cs sl tgt lf st M o1) (h2 : ¬ x = y → sm_S j k cs sl (pc + 4) lf st M o2) : sm_S j k cs sl pc lf (.long y :: .long x :: st) M (if x = y then o1 else o2) := by
  intro r hr n g0 g p l e R s m args below meth c Q hC hx hn hQ H locs ls hM hS hL
  refine W.lcmp hC.1 hC.2.1 hd0 ?_
  exact lv_if_eq hC.1 hC.2.1 hd ht (fun q => h1 ((lg_cmp_eq x y).mp q) r ((if_pos ((lg_cmp_eq x y).mp q)).symm.trans hr) n g0 g p l e R s m args below meth c Q hC hx hn hQ H locs ls hM hS hL) (fun q => h2 (fun z => q ((lg_cmp_eq x y).mpr z)) r ((if_neg (fun z => q ((lg_cmp_eq x y).mpr z))).symm.trans hr) n g0 g p l e R s m args below meth c Q hC hx hn hQ H locs ls hM hS hL)
theorem sd_lc_ne {x y : Int64} {off : Int} (tgt : Nat) (hd0 : decode k.2.1 pc = .ok (.lcmp, 1)) (hd : decode k.2.1 (pc + 1) = .ok (.ifCond .ne off, 3)) (ht : ((pc + 1 : Nat) : Int) + off = (tgt : Int)) (h1 : x = y → sm_S j k cs sl (pc + 4) lf st M o1) (h2 : ¬ x = y → sm_S j k cs sl tgt lf st M o2) : sm_S j k cs sl pc lf (.long y :: .long x :: st) M (if x = y then o1 else o2) := by
  intro r hr n g0 g p l e R s m args below meth c Q hC hx hn hQ H locs ls hM hS hL
  refine W.lcmp hC.1 hC.2.1 hd0 ?_
  exact lv_if_ne hC.1 hC.2.1 hd ht (fun q => h2 (fun z => q ((lg_cmp_eq x y).mpr z)) r ((if_neg (fun z => q ((lg_cmp_eq x y).mpr z))).symm.trans hr) n g0 g p l e R s m args below meth c Q hC hx hn hQ H locs ls hM hS hL) (fun q => h1 ((lg_cmp_eq x y).mp q) r ((if_pos ((lg_cmp_eq x y).mp q)).symm.trans hr) n g0 g p l e R s m args below meth c Q hC hx hn hQ H locs ls hM hS hL)
theorem sd_none : sm_S j k cs sl pc lf st M (none : Option ρ) := by
  intro r hr
  cases hr
theorem sd_ite {c : Prop} [Decidable c] (h1 : c → sm_S j k cs sl pc lf st M o1) (h2 : ¬ c → sm_S j k cs sl pc lf st M o2) : sm_S j k cs sl pc lf st M (if c then o1 else o2) := by
  by_cases q : c
  · rw [if_pos q]; exact h1 q
  · rw [if_neg q]; exact h2 q
theorem sd_eq (he : o = o1) (h : sm_S j k cs sl pc lf st M o1) : sm_S j k cs sl pc lf st M o := he ▸ h
/-- fewer locals known -/
def sm_fg : List (Option Value) → List Bool → List (Option Value)
  | [], _ => []
  | l, [] => l
  | x :: l, b :: m => (if b then x else none) :: sm_fg l m
theorem sm_fg_at : ∀ (l : List (Option Value)) (m : List Bool) (i : Nat) (v : Value), (sm_fg l m)[i]? = some (some v) → l[i]? = some (some v)
  | [], _, _, _, h => by simp [sm_fg] at h
  | x :: l, [], i, v, h => h
  | x :: l, b :: m, 0, v, h => by
    cases b
    · simp [sm_fg] at h
    · simpa [sm_fg] using h
  | x :: l, b :: m, i + 1, v, h => by
    simp only [sm_fg, List.getElem?_cons_succ] at h ⊢
    exact sm_fg_at l m i v h
theorem sd_fg (m : List Bool) (he : sm_fg lf m = lf2) (h : sm_S j k cs sl pc lf2 st M o) : sm_S j k cs sl pc lf st M o := by
  intro r hr n g0 g p l e R s m2 args below meth c Q hC hx hn hQ H locs ls hM hS hL
  exact h r hr n g0 g p l e R s m2 args below meth c Q hC hx hn hQ H locs ls hM hS ⟨hL.1, hL.2.1, fun i v hv => hL.2.2 i v (sm_fg_at lf m i v (he ▸ hv))⟩
/-- stores into locals -/
def sm_kl (lf : List (Option Value)) (i : Nat) : List (Option Value) := match i with
  | 0 => lf
  | i + 1 => match lf[i]? with
    | some (some (.long _)) => lf.set i none
    | some (some (.double _)) => lf.set i none
    | _ => lf
def sm_s1 (lf : List (Option Value)) (i : Nat) (v : Value) : List (Option Value) := (sm_kl lf i).set i (some v)
def sm_s2 (lf : List (Option Value)) (i : Nat) (v : Value) : List (Option Value) := ((sm_kl lf i).set i (some v)).set (i + 1) none
def sm_ll (g : sm_G) (lf : List (Option Value)) : List (Nat × Value) := lf.zipIdx.filterMap (fun q => q.1.map (fun v => (q.2, sm_tv g v)))
theorem sm_ll_in {g : sm_G} {lf : List (Option Value)} {i : Nat} {v : Value} (h : lf[i]? = some (some v)) : (i, sm_tv g v) ∈ sm_ll g lf := by
  refine List.mem_filterMap.mpr ⟨(some v, i), ?_, rfl⟩
  rw [List.mem_zipIdx_iff_getElem?]
  exact h
theorem sm_ll_of {g : sm_G} {lf : List (Option Value)} {q : Nat × Value} (h : q ∈ sm_ll g lf) : ∃ v, lf[q.1]? = some (some v) ∧ q.2 = sm_tv g v := by
  obtain ⟨x, hx, he⟩ := List.mem_filterMap.mp h
  rw [List.mem_zipIdx_iff_getElem?] at hx
  obtain ⟨a, b⟩ := x
  cases a with
  | none => simp at he
  | some v => simp at he; subst he; exact ⟨v, hx, rfl⟩
theorem sm_L.lv {g : sm_G} {n : Nat} {lf : List (Option Value)} {ls : Array Slot} (h : sm_L g n lf ls) : lv_has ls n (sm_ll g lf) := by
  refine ⟨h.1, h.2.1, fun q hq => ?_⟩
  obtain ⟨v, h1, h2⟩ := sm_ll_of hq
  rw [h2]
  exact h.2.2 _ _ h1
theorem sm_kl_at {lf : List (Option Value)} {i x : Nat} {v : Value} (h : (sm_kl lf i)[x]? = some (some v)) : lf[x]? = some (some v) ∧ ¬ (x + 1 = i ∧ v.category = 2) := by
  cases i with
  | zero => exact ⟨h, fun q => by omega⟩
  | succ i =>
    unfold sm_kl at h
    by_cases hx : x = i
    · subst hx
      dsimp only at h
      split at h
      · rename_i he
        rw [List.getElem?_set_self (List.getElem?_eq_some_iff.mp he).1] at h
        cases h
      · rename_i he
        rw [List.getElem?_set_self (List.getElem?_eq_some_iff.mp he).1] at h
        cases h
      · rename_i h1 h2
        refine ⟨h, fun q => ?_⟩
        cases v with
        | long z => exact h1 z h
        | double z => exact h2 z h
        | _ => simp [Value.category] at q
    · refine ⟨?_, fun q => hx (by omega)⟩
      dsimp only at h
      split at h
      · rwa [List.getElem?_set_ne (Ne.symm hx)] at h
      · rwa [List.getElem?_set_ne (Ne.symm hx)] at h
      · exact h
theorem sm_s1_ok {g : sm_G} {n i : Nat} {lf : List (Option Value)} {v : Value} {ls' : Array Slot} (h' : lv_has ls' n ((i, sm_tv g v) :: (sm_ll g lf).filter (fun q => !(q.1 == i) && !(q.1 + 1 == i && q.2.category == 2)))) : sm_L g n (sm_s1 lf i v) ls' := by
  refine ⟨h'.1, h'.2.1, fun x u hu => ?_⟩
  unfold sm_s1 at hu
  by_cases e : x = i
  · subst e
    have hl : x < (sm_kl lf x).length := by
      have := (List.getElem?_eq_some_iff.mp hu).1
      rwa [List.length_set] at this
    rw [List.getElem?_set_self hl] at hu
    cases hu
    exact h'.2.2 _ List.mem_cons_self
  · rw [List.getElem?_set_ne (Ne.symm e)] at hu
    obtain ⟨h1, h2⟩ := sm_kl_at hu
    refine h'.2.2 _ (List.mem_cons_of_mem _ (List.mem_filter.mpr ⟨sm_ll_in h1, ?_⟩))
    have h3 : (sm_tv g u).category = u.category := sm_tv_cat g u
    simp only [h3]
    simp [e]
    omega
theorem sm_s2_ok {g : sm_G} {n i : Nat} {lf : List (Option Value)} {v : Value} {ls' : Array Slot} (h' : lv_has ls' n ((i, sm_tv g v) :: (sm_ll g lf).filter (fun q => !(q.1 == i) && (!(q.1 == i + 1) && !(q.1 + 1 == i && q.2.category == 2))))) : sm_L g n (sm_s2 lf i v) ls' := by
  refine ⟨h'.1, h'.2.1, fun x u hu => ?_⟩
  unfold sm_s2 at hu
  by_cases e1 : x = i + 1
  · subst e1
    have hl : i + 1 < ((sm_kl lf i).set i (some v)).length := by
      have := (List.getElem?_eq_some_iff.mp hu).1
      rwa [List.length_set] at this
    rw [List.getElem?_set_self hl] at hu
    cases hu
  · rw [List.getElem?_set_ne (Ne.symm e1)] at hu
    by_cases e : x = i
    · subst e
      have hl : x < (sm_kl lf x).length := by
        have := (List.getElem?_eq_some_iff.mp hu).1
        rwa [List.length_set] at this
      rw [List.getElem?_set_self hl] at hu
      cases hu
      exact h'.2.2 _ List.mem_cons_self
    · rw [List.getElem?_set_ne (Ne.symm e)] at hu
      obtain ⟨h1, h2⟩ := sm_kl_at hu
      refine h'.2.2 _ (List.mem_cons_of_mem _ (List.mem_filter.mpr ⟨sm_ll_in h1, ?_⟩))
      have h3 : (sm_tv g u).category = u.category := sm_tv_cat g u
      simp only [h3]
      simp [e, e1]
      omega
theorem sd_istore_n {z : Fin 4} {x : Int32} (hd : decode k.2.1 pc = .ok (.istore_n z, 1)) (hz : (z : Nat) < k.2.2.1) (he : sm_s1 lf (z : Nat) (.int x) = lf2) (h : sm_S j k cs sl (pc + 1) lf2 st M o) : sm_S j k cs sl pc lf (.int x :: st) M o := by
  intro r hr n g0 g p l e R s m args below meth c Q hC hx hn hQ H locs ls hM hS hL
  exact lv_istore_n hC.1 hC.2.1 hd rfl hL.lv hz rfl (fun ls2 h2 => h r hr n g0 g p l e R s m args below meth c Q hC hx hn hQ H locs ls2 hM hS (he ▸ sm_s1_ok (v := .int x) h2))
theorem sd_istore {i : Nat} {x : Int32} (hd : decode k.2.1 pc = .ok (.istore i, 2)) (hz : i < k.2.2.1) (he : sm_s1 lf i (.int x) = lf2) (h : sm_S j k cs sl (pc + 2) lf2 st M o) : sm_S j k cs sl pc lf (.int x :: st) M o := by
  intro r hr n g0 g p l e R s m args below meth c Q hC hx hn hQ H locs ls hM hS hL
  exact lv_istore hC.1 hC.2.1 hd hL.lv hz rfl (fun ls2 h2 => h r hr n g0 g p l e R s m args below meth c Q hC hx hn hQ H locs ls2 hM hS (he ▸ sm_s1_ok (v := .int x) h2))
theorem sd_astore_n {z : Fin 4} {x : Nat} (hd : decode k.2.1 pc = .ok (.astore_n z, 1)) (hz : (z : Nat) < k.2.2.1) (he : sm_s1 lf (z : Nat) (.ref x) = lf2) (h : sm_S j k cs sl (pc + 1) lf2 st M o) : sm_S j k cs sl pc lf (.ref x :: st) M o := by
  intro r hr n g0 g p l e R s m args below meth c Q hC hx hn hQ H locs ls hM hS hL
  exact lv_astore_n hC.1 hC.2.1 hd rfl hL.lv hz rfl (fun ls2 h2 => h r hr n g0 g p l e R s m args below meth c Q hC hx hn hQ H locs ls2 hM hS (he ▸ sm_s1_ok (v := .ref x) h2))
theorem sd_astore {i : Nat} {x : Nat} (hd : decode k.2.1 pc = .ok (.astore i, 2)) (hz : i < k.2.2.1) (he : sm_s1 lf i (.ref x) = lf2) (h : sm_S j k cs sl (pc + 2) lf2 st M o) : sm_S j k cs sl pc lf (.ref x :: st) M o := by
  intro r hr n g0 g p l e R s m args below meth c Q hC hx hn hQ H locs ls hM hS hL
  exact lv_astore hC.1 hC.2.1 hd hL.lv hz rfl (fun ls2 h2 => h r hr n g0 g p l e R s m args below meth c Q hC hx hn hQ H locs ls2 hM hS (he ▸ sm_s1_ok (v := .ref x) h2))
theorem sd_lstore_n {z : Fin 4} {x : Int64} (hd : decode k.2.1 pc = .ok (.lstore_n z, 1)) (hz : (z : Nat) + 1 < k.2.2.1) (he : sm_s2 lf (z : Nat) (.long x) = lf2) (h : sm_S j k cs sl (pc + 1) lf2 st M o) : sm_S j k cs sl pc lf (.long x :: st) M o := by
  intro r hr n g0 g p l e R s m args below meth c Q hC hx hn hQ H locs ls hM hS hL
  exact lv_lstore_n hC.1 hC.2.1 hd rfl hL.lv hz rfl (fun ls2 h2 => h r hr n g0 g p l e R s m args below meth c Q hC hx hn hQ H locs ls2 hM hS (he ▸ sm_s2_ok (v := .long x) h2))
theorem sd_lstore {i : Nat} {x : Int64} (hd : decode k.2.1 pc = .ok (.lstore i, 2)) (hz : i + 1 < k.2.2.1) (he : sm_s2 lf i (.long x) = lf2) (h : sm_S j k cs sl (pc + 2) lf2 st M o) : sm_S j k cs sl pc lf (.long x :: st) M o := by
  intro r hr n g0 g p l e R s m args below meth c Q hC hx hn hQ H locs ls hM hS hL
  exact lv_lstore hC.1 hC.2.1 hd hL.lv hz rfl (fun ls2 h2 => h r hr n g0 g p l e R s m args below meth c Q hC hx hn hQ H locs ls2 hM hS (he ▸ sm_s2_ok (v := .long x) h2))
theorem sd_iinc {i : Nat} {z : Int} {x cc : Int32} (hd : decode k.2.1 pc = .ok (.iinc i z, 3)) (hz : i < k.2.2.1) (hl : lf[i]? = some (some (.int x))) (hc : Int32.ofInt z = cc) (he : sm_s1 lf i (.int (x + cc)) = lf2) (h : sm_S j k cs sl (pc + 3) lf2 st M o) : sm_S j k cs sl pc lf st M o := by
  intro r hr n g0 g p l e R s m args below meth c Q hC hx hn hQ H locs ls hM hS hL
  obtain ⟨q, hq⟩ := List.getElem?_of_mem (sm_ll_in (g := g) hl)
  exact lv_iinc (v := x + cc) hC.1 hC.2.1 hd hL.lv hq (by rw [hc]) hz rfl (fun ls2 h2 => h r hr n g0 g p l e R s m args below meth c Q hC hx hn hQ H locs ls2 hM hS (he ▸ sm_s1_ok (v := .int (x + cc)) h2))
/-- a name for what is stored -/
def sm_n {α ρ : Type} (x : α) (K : α → Option ρ) : Option ρ := K x
theorem sd_ni {x : Int32} {K : Int32 → Option ρ} (h : ∀ y : Int32, sm_S j k cs sl pc lf (.int y :: st) M (K y)) : sm_S j k cs sl pc lf (.int x :: st) M (sm_n x K) := h x
theorem sd_nl {x : Int64} {K : Int64 → Option ρ} (h : ∀ y : Int64, sm_S j k cs sl pc lf (.long y :: st) M (K y)) : sm_S j k cs sl pc lf (.long x :: st) M (sm_n x K) := h x
theorem sd_swi {dflt lo hi : Int} {offs : Array Int} {len : Nat} {x : Int32} {off : Int} (tgt : Nat) (hd : decode k.2.1 pc = .ok (.tableswitch dflt lo hi offs, len)) (h1 : ¬ x.toInt < lo) (h2 : ¬ hi < x.toInt) (ho : offs[(x.toInt - lo).toNat]? = some off) (ht : (pc : Int) + off = (tgt : Int)) (h : sm_S j k cs sl tgt lf st M o) : sm_S j k cs sl pc lf (.int x :: st) M o := by
  intro r hr n g0 g p l e R s m args below meth c Q hC hx hn hQ H locs ls hM hS hL
  exact lv_tableIn hC.1 hC.2.1 hd h1 h2 ho ht (h r hr n g0 g p l e R s m args below meth c Q hC hx hn hQ H locs ls hM hS hL)
theorem sd_swo {dflt lo hi : Int} {offs : Array Int} {len : Nat} {x : Int32} (tgt : Nat) (hd : decode k.2.1 pc = .ok (.tableswitch dflt lo hi offs, len)) (hh : x.toInt < lo ∨ hi < x.toInt) (ht : (pc : Int) + dflt = (tgt : Int)) (h : sm_S j k cs sl tgt lf st M o) : sm_S j k cs sl pc lf (.int x :: st) M o := by
  intro r hr n g0 g p l e R s m args below meth c Q hC hx hn hQ H locs ls hM hS hL
  exact lv_tableOut hC.1 hC.2.1 hd hh ht (h r hr n g0 g p l e R s m args below meth c Q hC hx hn hQ H locs ls hM hS hL)
end
end
section
abbrev sm_t : Type := (Nat → Nat → Int32) × (Nat → Nat → Int64) × Nat × Nat × Option Nat
def sm_s0 (n : Nat) : sm_Sh := [.inl (.int, 8), .inl (.int, 8), .inl (.int, n), .inr 6, .inl (.array .int, 6), .inl (.int, 40), .inl (.int, 40), .inl (.int, 40), .inl (.int, 40), .inl (.int, 40), .inl (.int, 40), .inl (.int, 6), .inl (.array .byte, 4), .inl (.byte, 80), .inl (.byte, 80), .inl (.byte, 80), .inl (.byte, 80), .inl (.int, 4), .inr 1, .inr 2, .inl (.int, 6), .inl (.int, 7), .inr 0, .inl (.object "TwoFliers$Sign", 12), .inr 5, .inr 5, .inr 5, .inr 5, .inr 5, .inr 5, .inr 5, .inr 5, .inr 5, .inr 5, .inr 5, .inr 5, .inl (.array .int, 3), .inl (.int, 120), .inl (.int, 120), .inl (.int, 120), .inl (.long, 120), .inl (.long, 7), .inl (.long, 120), .inl (.long, 120), .inl (.boolean, 3), .inr 3, .inl (.int, 120), .inr 4, .inl (.int, 5), .inl (.int, 5), .inl (.int, 6), .inr 7, .inl (.int, 6), .inl (.int, 6), .inl (.int, 240), .inl (.int, 40), .inl (.int, 4), .inl (.int, 320), .inl (.int, 15), .inl (.boolean, 4), .inl (.int, 480), .inl (.int, 120), .inl (.int, 60), .inl (.long, 840), .inl (.long, 840), .inl (.long, 120), .inl (.int, 5), .inl (.int, 5), .inl (.int, 6)]
def sm_sq (a : Nat) : Option ((FieldType × Nat) ⊕ Nat) := if a < 3 then none else (sm_s0 0)[a]?
def sm_r0 (nw nx : Nat) (tx : Option Nat) (a k : Nat) : Option Nat :=
  if a = 3 then ([some 4, some 11, some 12, some 17, some 18, some 19, some 22, some 36, some 44, some 45, some 47, none, none, none, none, some 50] : List (Option Nat)).getD k none else if a = 18 then ([some 19, some 22, some 36, some 40, some 41, none, some nw, some nx] : List (Option Nat)).getD k none else if a = 19 then ([none, none, some 20, some 21] : List (Option Nat)).getD k none else if a = 22 then ([some 23, none] : List (Option Nat)).getD k none else if a = 45 then ([tx, none, none, none, some 46, none] : List (Option Nat)).getD k none else if a = 47 then ([some 48, some 49, none, none] : List (Option Nat)).getD k none else if a = 51 then ([none, some 52, none, none, none, some 53, some 54, some 55, some 56, some 57, some 58, some 59, some 60, some 61, none, none, none, none, some 62, none, some 63, some 64, some 65, none, some 66, some 67, none, none, some 68, none] : List (Option Nat)).getD k none else if a = 4 then (if k < 6 then some (5 + k) else none) else if a = 12 then (if k < 4 then some (13 + k) else none) else if a = 36 then (if k < 3 then some (37 + k) else none) else if a = 23 then (if k < 12 then some (24 + k) else none) else none
def sm_m (n : Nat) (S : sm_t) : sm_M := (sm_s0 n, S.1, S.2.1, sm_r0 S.2.2.1 S.2.2.2.1 S.2.2.2.2)
theorem sm_sq_at {a n : Nat} {S : sm_t} {x : (FieldType × Nat) ⊕ Nat} (h : sm_sq a = some x) : 3 ≤ a ∧ (sm_m n S).1[a]? = some x := by
  unfold sm_sq at h
  split at h
  · cases h
  · rename_i q
    refine ⟨by omega, ?_⟩
    obtain ⟨b, rfl⟩ : ∃ b, a = b + 3 := ⟨a - 3, by omega⟩
    exact h
def sm_ix (i : Int32) (n : Nat) : Bool := decide (¬ i < 0) && decide (i.toNatClampNeg < n)
theorem sm_ix_in {i : Int32} {n : Nat} (h : sm_ix i n = true) : vp_in i n := by
  simp only [sm_ix, Bool.and_eq_true, decide_eq_true_eq] at h
  exact fun q => q.elim h.1 (fun z => by omega)
def sm_rd {α ρ : Type} (f : Nat → α) (n : Nat) (i : Int32) (K : α → Option ρ) : Option ρ := if sm_ix i n = true then K (f i.toNatClampNeg) else none
def sm_an {ρ : Type} (ty : FieldType) (a : Nat) (K : Nat → Option ρ) : Option ρ := match sm_sq a with
  | some (.inl q) => if q.1 = ty then K q.2 else none
  | _ => none
def sm_on {ρ : Type} (ci a : Nat) (o : Option ρ) : Option ρ := if sm_sq a = some (.inr ci) then o else none
def sm_wI (S : sm_t) (a i : Nat) (x : Int32) : sm_t := (va_up S.1 a (upd (S.1 a) i x), S.2)
def sm_wL (S : sm_t) (a i : Nat) (x : Int64) : sm_t := (S.1, va_up S.2.1 a (vp_updL (S.2.1 a) i x), S.2.2)
def sm_wr {ρ : Type} (S : sm_t) (a n : Nat) (i x : Int32) (K : sm_t → Option ρ) : Option ρ := if sm_ix i n = true then K (sm_wI S a i.toNatClampNeg x) else none
def sm_wl {ρ : Type} (S : sm_t) (a n : Nat) (i : Int32) (x : Int64) (K : sm_t → Option ρ) : Option ρ := if sm_ix i n = true then K (sm_wL S a i.toNatClampNeg x) else none
theorem sm_R_set {g : sm_G} {M M' : sm_M} {H H1 : Heap} {a : Nat} {x : (FieldType × Nat) ⊕ Nat} {E : va_E} (hM : sm_R g M H) (hs : M'.1 = M.1) (ho : ∀ b, b ≠ a → M'.2.1 b = M.2.1 b ∧ M'.2.2.1 b = M.2.2.1 b ∧ M'.2.2.2 b = M.2.2.2 b) (h : M.1[a]? = some x) (h3 : 3 ≤ a) (hE : sm_ce g M' a x = E) (hP : va_P g.2.2.2.2.1 sm_cl ((sm_w g M).set (a - 3) (g.1 a, E)) H1) (hD : va_D (sm_A g) ((sm_w g M).set (a - 3) (g.1 a, E))) : sm_R g M' H1 := by
  rw [sm_w_set hs ho h h3 hE] at hP hD
  obtain ⟨⟨e1, e2, e3, e4, e5, e6⟩, -, -⟩ := hM
  exact ⟨⟨by rw [hs]; exact e1, by rw [hs]; exact e2, by rw [hs]; exact e3, (ho 0 (by omega)).1.trans e4, (ho 1 (by omega)).1.trans e5, (ho 2 (by omega)).1.trans e6⟩, hP, hD⟩
theorem sm_up_o {α : Type} (f : Nat → α) {a b : Nat} (x : α) (h : b ≠ a) : va_up f a x b = f b := if_neg h
theorem sm_up_s {α : Type} (f : Nat → α) (a : Nat) (x : α) : va_up f a x a = x := if_pos rfl
def sm_jI (n : Nat) : Int32 × sm_t → Option Value × sm_M := fun q => (some (.int q.1), sm_m n q.2)
def sm_jL (n : Nat) : Int64 × sm_t → Option Value × sm_M := fun q => (some (.long q.1), sm_m n q.2)
def sm_jV (n : Nat) : sm_t → Option Value × sm_M := fun q => (none, sm_m n q)
section
variable {ρ : Type} {j : ρ → Option Value × sm_M} {k : sm_K} {cs sl pc N : Nat} {lf : List (Option Value)} {st : List Value} {S : sm_t} {o : Option ρ}
theorem sd_an {M : sm_M} {ty : FieldType} {a : Nat} {K : Nat → Option ρ} (h : ∀ n, sm_sq a = some (.inl (ty, n)) → sm_S j k cs sl pc lf st M (K n)) : sm_S j k cs sl pc lf st M (sm_an ty a K) := by
  intro r hr
  unfold sm_an at hr
  split at hr
  · rename_i q e
    obtain ⟨t, n⟩ := q
    dsimp only at hr
    split at hr
    · rename_i z
      subst z
      exact h n e r hr
    · cases hr
  · cases hr
theorem sd_on {M : sm_M} {ci a : Nat} (h : sm_sq a = some (.inr ci) → sm_S j k cs sl pc lf st M o) : sm_S j k cs sl pc lf st M (sm_on ci a o) := by
  intro r hr
  unfold sm_on at hr
  split at hr
  · rename_i e
    exact h e r hr
  · cases hr
theorem sd_iald {a n : Nat} {i : Int32} {K : Int32 → Option ρ} (hs : sm_sq a = some (.inl (.int, n))) (hd : decode k.2.1 pc = .ok (.iaload, 1)) (h : ∀ v : Int32, sm_S j k cs sl (pc + 1) lf (.int v :: st) (sm_m N S) (K v)) : sm_S j k cs sl pc lf (.int i :: .ref a :: st) (sm_m N S) (sm_rd (S.1 a) n i K) := by
  intro r hr nn g0 g p l e R s m args below meth c Q hC hx hn hQ H locs ls hM hS hL
  unfold sm_rd at hr
  split at hr
  · rename_i hi
    obtain ⟨h3, hs'⟩ := sm_sq_at (n := N) (S := S) hs
    have hw : (sm_w g (sm_m N S))[a - 3]? = some (g.1 a, .inl (g.2.2.2.2.2 .int, n, .inl (S.1 a))) := sm_w_at hs' h3
    exact va_iald hC.1 hC.2.1 hC.2.2.2.2.2.2.2.2.2.1.1 hM.2.1 (a - 3) 0 hw rfl (sm_ix_in hi) hd (h _ r hr nn g0 g p l e R s m args below meth c Q hC hx hn hQ H locs ls hM hS hL)
  · cases hr
theorem sd_bald {a n : Nat} {i : Int32} {K : Int32 → Option ρ} (hs : sm_sq a = some (.inl (.byte, n))) (hd : decode k.2.1 pc = .ok (.baload, 1)) (h : ∀ v : Int32, sm_S j k cs sl (pc + 1) lf (.int v :: st) (sm_m N S) (K v)) : sm_S j k cs sl pc lf (.int i :: .ref a :: st) (sm_m N S) (sm_rd (S.1 a) n i K) := by
  intro r hr nn g0 g p l e R s m args below meth c Q hC hx hn hQ H locs ls hM hS hL
  unfold sm_rd at hr
  split at hr
  · rename_i hi
    obtain ⟨h3, hs'⟩ := sm_sq_at (n := N) (S := S) hs
    have hw : (sm_w g (sm_m N S))[a - 3]? = some (g.1 a, .inl (g.2.2.2.2.2 .byte, n, .inl (S.1 a))) := sm_w_at hs' h3
    exact va_bald hC.1 hC.2.1 hC.2.2.2.2.2.2.2.2.2.1.1 hM.2.1 (a - 3) 2 hw rfl (sm_ix_in hi) hd (h _ r hr nn g0 g p l e R s m args below meth c Q hC hx hn hQ H locs ls hM hS hL)
  · cases hr
theorem sd_zald {a n : Nat} {i : Int32} {K : Int32 → Option ρ} (hs : sm_sq a = some (.inl (.boolean, n))) (hd : decode k.2.1 pc = .ok (.baload, 1)) (h : ∀ v : Int32, sm_S j k cs sl (pc + 1) lf (.int v :: st) (sm_m N S) (K v)) : sm_S j k cs sl pc lf (.int i :: .ref a :: st) (sm_m N S) (sm_rd (S.1 a) n i K) := by
  intro r hr nn g0 g p l e R s m args below meth c Q hC hx hn hQ H locs ls hM hS hL
  unfold sm_rd at hr
  split at hr
  · rename_i hi
    obtain ⟨h3, hs'⟩ := sm_sq_at (n := N) (S := S) hs
    have hw : (sm_w g (sm_m N S))[a - 3]? = some (g.1 a, .inl (g.2.2.2.2.2 .boolean, n, .inl (S.1 a))) := sm_w_at hs' h3
    exact va_zald hC.1 hC.2.1 hC.2.2.2.2.2.2.2.2.2.1.1 hM.2.1 (a - 3) 3 hw rfl (sm_ix_in hi) hd (h _ r hr nn g0 g p l e R s m args below meth c Q hC hx hn hQ H locs ls hM hS hL)
  · cases hr
theorem sd_lald {a n : Nat} {i : Int32} {K : Int64 → Option ρ} (hs : sm_sq a = some (.inl (.long, n))) (hd : decode k.2.1 pc = .ok (.laload, 1)) (h : ∀ v : Int64, sm_S j k cs sl (pc + 1) lf (.long v :: st) (sm_m N S) (K v)) : sm_S j k cs sl pc lf (.int i :: .ref a :: st) (sm_m N S) (sm_rd (S.2.1 a) n i K) := by
  intro r hr nn g0 g p l e R s m args below meth c Q hC hx hn hQ H locs ls hM hS hL
  unfold sm_rd at hr
  split at hr
  · rename_i hi
    obtain ⟨h3, hs'⟩ := sm_sq_at (n := N) (S := S) hs
    have hw : (sm_w g (sm_m N S))[a - 3]? = some (g.1 a, .inl (g.2.2.2.2.2 .long, n, .inr (.inl (S.2.1 a)))) := sm_w_at hs' h3
    exact va_lald hC.1 hC.2.1 hC.2.2.2.2.2.2.2.2.2.1.1 hM.2.1 (a - 3) 1 hw rfl (sm_ix_in hi) hd (h _ r hr nn g0 g p l e R s m args below meth c Q hC hx hn hQ H locs ls hM hS hL)
  · cases hr
/-- a place of an array of cells that never change -/
theorem sd_aald {a n q : Nat} {ty : FieldType} {i : Int32} {K : Nat → Option ρ} (t0 : Nat) (hs : sm_sq a = some (.inl (ty, n))) (hk : sm_kd ty = 2) (hf : ty.isReference = true) (ht : ∀ g : sm_G, (sm_tys g)[t0]? = some (g.2.2.2.2.2 ty, ty)) (hr0 : ∀ (nw nx : Nat) (tx : Option Nat) (i : Nat), i < n → sm_r0 nw nx tx a i = some (q + i)) (hd : decode k.2.1 pc = .ok (.aaload, 1)) (h : ∀ b : Nat, sm_S j k cs sl (pc + 1) lf (.ref b :: st) (sm_m N S) (K b)) : sm_S j k cs sl pc lf (.int i :: .ref a :: st) (sm_m N S) (sm_rd (fun i => q + i) n i K) := by
  intro r hr nn g0 g p l e R s m args below meth c Q hC hx hn hQ H locs ls hM hS hL
  unfold sm_rd at hr
  split at hr
  · rename_i hi
    obtain ⟨h3, hs'⟩ := sm_sq_at (n := N) (S := S) hs
    have hw := sm_w_at (g := g) hs' h3
    simp only [sm_ce, sm_ar, hk] at hw
    have hin := sm_ix_in hi
    have hlt : i.toNatClampNeg < n := Nat.not_le.mp fun q => hin (Or.inr q)
    have hv : va_rf (((sm_m N S).2.2.2 a i.toNatClampNeg).map g.1) = .ref (g.1 (q + i.toNatClampNeg)) := by
      show va_rf ((sm_r0 S.2.2.1 S.2.2.2.1 S.2.2.2.2 a i.toNatClampNeg).map g.1) = _
      rw [hr0 _ _ _ _ hlt]
      rfl
    have hX := hC.2.2.2.2.2.2.2.2.2.1.1
    exact W.aald (v := .ref (g.1 (q + i.toNatClampNeg))) (ty := ty) hC.1 hC.2.1 (hM.2.1 (a - 3) _ hw) ((hX.2 t0 _ (ht g)).1 n (fun z => va_rf (((sm_m N S).2.2.2 a z).map g.1))) hf (fun q => by cases q) (by show ¬ (i < 0 ∨ (arrV _ _ _).slots.size ≤ _); rw [arrV_size]; exact hin) (by show (arrV _ _ _).slots[_]? = _; rw [arrV_read _ _ hlt, hv]) rfl rfl hd (h _ r hr nn g0 g p l e R s m args below meth c Q hC hx hn hQ H locs ls hM hS hL)
  · cases hr
theorem sd_iast {a n : Nat} {i x : Int32} {K : sm_t → Option ρ} (hs : sm_sq a = some (.inl (.int, n))) (hd : decode k.2.1 pc = .ok (.iastore, 1)) (h : ∀ S : sm_t, sm_S j k cs sl (pc + 1) lf st (sm_m N S) (K S)) : sm_S j k cs sl pc lf (.int x :: .int i :: .ref a :: st) (sm_m N S) (sm_wr S a n i x K) := by
  intro r hr nn g0 g p l e R s m args below meth c Q hC hx hn hQ H locs ls hM hS hL
  unfold sm_wr at hr
  split at hr
  · rename_i hi
    obtain ⟨h3, hs'⟩ := sm_sq_at (n := N) (S := S) hs
    have hw : (sm_w g (sm_m N S))[a - 3]? = some (g.1 a, .inl (g.2.2.2.2.2 .int, n, .inl (S.1 a))) := sm_w_at hs' h3
    refine va_iast hC.1 hC.2.1 hC.2.2.2.2.2.2.2.2.2.1.1 hM.2.1 hM.2.2 hS (a - 3) 0 hw rfl (sm_ix_in hi) hd (fun H1 locs1 hP1 hD1 hS1 => ?_)
    exact h _ r hr nn g0 g p l e R s m args below meth c Q hC hx hn hQ H1 locs1 ls (sm_R_set (M' := sm_m N (sm_wI S a i.toNatClampNeg x)) hM rfl (fun b hb => ⟨sm_up_o _ _ hb, rfl, rfl⟩) hs' h3 (by simp only [sm_ce, sm_ar, sm_kd, sm_m, sm_wI, sm_up_s]) hP1 hD1) hS1 hL
  · cases hr
theorem sd_bast {a n : Nat} {i x : Int32} {K : sm_t → Option ρ} (hs : sm_sq a = some (.inl (.byte, n))) (hd : decode k.2.1 pc = .ok (.bastore, 1)) (h : ∀ S : sm_t, sm_S j k cs sl (pc + 1) lf st (sm_m N S) (K S)) : sm_S j k cs sl pc lf (.int x :: .int i :: .ref a :: st) (sm_m N S) (sm_wr S a n i (vp_nar .byte x) K) := by
  intro r hr nn g0 g p l e R s m args below meth c Q hC hx hn hQ H locs ls hM hS hL
  unfold sm_wr at hr
  split at hr
  · rename_i hi
    obtain ⟨h3, hs'⟩ := sm_sq_at (n := N) (S := S) hs
    have hw : (sm_w g (sm_m N S))[a - 3]? = some (g.1 a, .inl (g.2.2.2.2.2 .byte, n, .inl (S.1 a))) := sm_w_at hs' h3
    refine va_bast hC.1 hC.2.1 hC.2.2.2.2.2.2.2.2.2.1.1 hM.2.1 hM.2.2 hS (a - 3) 2 hw rfl (sm_ix_in hi) hd (fun H1 locs1 hP1 hD1 hS1 => ?_)
    exact h _ r hr nn g0 g p l e R s m args below meth c Q hC hx hn hQ H1 locs1 ls (sm_R_set (M' := sm_m N (sm_wI S a i.toNatClampNeg (vp_nar .byte x))) hM rfl (fun b hb => ⟨sm_up_o _ _ hb, rfl, rfl⟩) hs' h3 (by simp only [sm_ce, sm_ar, sm_kd, sm_m, sm_wI, sm_up_s]) hP1 hD1) hS1 hL
  · cases hr
theorem sd_zast {a n : Nat} {i x : Int32} {K : sm_t → Option ρ} (hs : sm_sq a = some (.inl (.boolean, n))) (hd : decode k.2.1 pc = .ok (.bastore, 1)) (h : ∀ S : sm_t, sm_S j k cs sl (pc + 1) lf st (sm_m N S) (K S)) : sm_S j k cs sl pc lf (.int x :: .int i :: .ref a :: st) (sm_m N S) (sm_wr S a n i (vp_nar .boolean x) K) := by
  intro r hr nn g0 g p l e R s m args below meth c Q hC hx hn hQ H locs ls hM hS hL
  unfold sm_wr at hr
  split at hr
  · rename_i hi
    obtain ⟨h3, hs'⟩ := sm_sq_at (n := N) (S := S) hs
    have hw : (sm_w g (sm_m N S))[a - 3]? = some (g.1 a, .inl (g.2.2.2.2.2 .boolean, n, .inl (S.1 a))) := sm_w_at hs' h3
    refine va_zast hC.1 hC.2.1 hC.2.2.2.2.2.2.2.2.2.1.1 hM.2.1 hM.2.2 hS (a - 3) 3 hw rfl (sm_ix_in hi) hd (fun H1 locs1 hP1 hD1 hS1 => ?_)
    exact h _ r hr nn g0 g p l e R s m args below meth c Q hC hx hn hQ H1 locs1 ls (sm_R_set (M' := sm_m N (sm_wI S a i.toNatClampNeg (vp_nar .boolean x))) hM rfl (fun b hb => ⟨sm_up_o _ _ hb, rfl, rfl⟩) hs' h3 (by simp only [sm_ce, sm_ar, sm_kd, sm_m, sm_wI, sm_up_s]) hP1 hD1) hS1 hL
  · cases hr
theorem sd_last {a n : Nat} {i : Int32} {x : Int64} {K : sm_t → Option ρ} (hs : sm_sq a = some (.inl (.long, n))) (hd : decode k.2.1 pc = .ok (.lastore, 1)) (h : ∀ S : sm_t, sm_S j k cs sl (pc + 1) lf st (sm_m N S) (K S)) : sm_S j k cs sl pc lf (.long x :: .int i :: .ref a :: st) (sm_m N S) (sm_wl S a n i x K) := by
  intro r hr nn g0 g p l e R s m args below meth c Q hC hx hn hQ H locs ls hM hS hL
  unfold sm_wl at hr
  split at hr
  · rename_i hi
    obtain ⟨h3, hs'⟩ := sm_sq_at (n := N) (S := S) hs
    have hw : (sm_w g (sm_m N S))[a - 3]? = some (g.1 a, .inl (g.2.2.2.2.2 .long, n, .inr (.inl (S.2.1 a)))) := sm_w_at hs' h3
    refine va_last hC.1 hC.2.1 hC.2.2.2.2.2.2.2.2.2.1.1 hM.2.1 hM.2.2 hS (a - 3) 1 hw rfl (sm_ix_in hi) hd (fun H1 locs1 hP1 hD1 hS1 => ?_)
    exact h _ r hr nn g0 g p l e R s m args below meth c Q hC hx hn hQ H1 locs1 ls (sm_R_set (M' := sm_m N (sm_wL S a i.toNatClampNeg x)) hM rfl (fun b hb => ⟨rfl, sm_up_o _ _ hb, rfl⟩) hs' h3 (by simp only [sm_ce, sm_ar, sm_kd, sm_m, sm_wL, sm_up_s]) hP1 hD1) hS1 hL
  · cases hr
theorem sd_alen {a n : Nat} {ty : FieldType} (t0 : Nat) (v : Int32) (hs : sm_sq a = some (.inl (ty, n))) (ht : ∀ g : sm_G, (sm_tys g)[t0]? = some (g.2.2.2.2.2 ty, ty)) (hv : Int32.ofNat n = v) (hd : decode k.2.1 pc = .ok (.arraylength, 1)) (h : sm_S j k cs sl (pc + 1) lf (.int v :: st) (sm_m N S) o) : sm_S j k cs sl pc lf (.ref a :: st) (sm_m N S) o := by
  intro r hr nn g0 g p l e R s m args below meth c Q hC hx hn hQ H locs ls hM hS hL
  obtain ⟨h3, hs'⟩ := sm_sq_at (n := N) (S := S) hs
  have hw : (sm_w g (sm_m N S))[a - 3]? = some (g.1 a, .inl (g.2.2.2.2.2 ty, sm_ar g (sm_m N S) a ty n)) := sm_w_at hs' h3
  have hn1 : (sm_ar g (sm_m N S) a ty n).1 = n := by unfold sm_ar; split <;> rfl
  exact va_alen hC.1 hC.2.1 hC.2.2.2.2.2.2.2.2.2.1.1 hM.2.1 (a - 3) t0 hw (ht g) (v := v) (by rw [hn1]; exact hv) hd (h r hr nn g0 g p l e R s m args below meth c Q hC hx hn hQ H locs ls hM hS hL)
/-- a field's link: which slot of which of the classes -/
def sm_fl (own : String) (idx ci i : Nat) : Prop := ci < 8 ∧ i < sm_nf ci ∧ Cond.fieldLink own idx (sm_T ci i).1 (sm_T ci i).2.1 (sm_T ci i).2.2.1 ∈ sm_tb
theorem sm_fv_at {g : sm_G} {M : sm_M} {a ci i : Nat} (hi : i < sm_nf ci) : ((List.range (sm_nf ci)).map (sm_fv g M a ci))[i]? = some (sm_fv g M a ci i) := by
  rw [List.getElem?_map, List.getElem?_range hi]
  rfl
theorem sd_get {M : sm_M} {a idx ci i : Nat} {v : Value} (h3 : 3 ≤ a) (hs : M.1[a]? = some (.inr ci)) (hf : sm_fl k.1.cls idx ci i) (hv : ∀ g : sm_G, sm_fv g M a ci i = sm_tv g v) (hd : decode k.2.1 pc = .ok (.getfield idx, 3)) (h : sm_S j k cs sl (pc + 3) lf (v :: st) M o) : sm_S j k cs sl pc lf (.ref a :: st) M o := by
  intro r hr nn g0 g p l e R s m args below meth c Q hC hx hn hQ H locs ls hM hS hL
  obtain ⟨hc, hi, hl⟩ := hf
  refine va_get (v := sm_tv g v) hC.1 hC.2.1 hC.2.2.2.2.2.1 (sm_cl_in ci hc) hC.2.2.2.2.1 hC.2.2.2.2.2.2.2.2.2.1.1 hM.2.1 (a - 3) (sm_w_at hs h3) (sm_cl_at ci hc) i hi (hC.2.2.2.2.2.1 _ hl) (fun _ z => z) (by rw [sm_fv_at hi, hv g]) hd ?_
  exact h r hr nn g0 g p l e R s m args below meth c Q hC hx hn hQ H locs ls hM hS hL
theorem sd_getI {a idx ci i : Nat} {K : Int32 → Option ρ} (hs : sm_sq a = some (.inr ci)) (hk : sm_kd (sm_tf ci i) = 0) (hf : sm_fl k.1.cls idx ci i) (hd : decode k.2.1 pc = .ok (.getfield idx, 3)) (h : ∀ v : Int32, sm_S j k cs sl (pc + 3) lf (.int v :: st) (sm_m N S) (K v)) : sm_S j k cs sl pc lf (.ref a :: st) (sm_m N S) (sm_n (S.1 a i) K) :=
  sd_get (sm_sq_at (n := N) (S := S) hs).1 (sm_sq_at hs).2 hf (v := .int (S.1 a i)) (fun g => by simp only [sm_fv, hk]; rfl) hd (h _)
theorem sd_getL {a idx ci i : Nat} {K : Int64 → Option ρ} (hs : sm_sq a = some (.inr ci)) (hk : sm_kd (sm_tf ci i) = 1) (hf : sm_fl k.1.cls idx ci i) (hd : decode k.2.1 pc = .ok (.getfield idx, 3)) (h : ∀ v : Int64, sm_S j k cs sl (pc + 3) lf (.long v :: st) (sm_m N S) (K v)) : sm_S j k cs sl pc lf (.ref a :: st) (sm_m N S) (sm_n (S.2.1 a i) K) :=
  sd_get (sm_sq_at (n := N) (S := S) hs).1 (sm_sq_at hs).2 hf (v := .long (S.2.1 a i)) (fun g => by simp only [sm_fv, hk]; rfl) hd (h _)
theorem sd_getR {a idx ci i : Nat} (b : Nat) (hs : sm_sq a = some (.inr ci)) (hk : sm_kd (sm_tf ci i) = 2) (hf : sm_fl k.1.cls idx ci i) (hb : sm_r0 S.2.2.1 S.2.2.2.1 S.2.2.2.2 a i = some b) (hd : decode k.2.1 pc = .ok (.getfield idx, 3)) (h : sm_S j k cs sl (pc + 3) lf (.ref b :: st) (sm_m N S) o) : sm_S j k cs sl pc lf (.ref a :: st) (sm_m N S) o :=
  sd_get (sm_sq_at (n := N) (S := S) hs).1 (sm_sq_at hs).2 hf (v := .ref b) (fun g => by
    have hb' : (sm_m N S).2.2.2 a i = some b := hb
    simp only [sm_fv, hk, hb']; rfl) hd h
theorem sd_nr {M : sm_M} {x : Nat} {K : Nat → Option ρ} (h : ∀ y : Nat, sm_S j k cs sl pc lf (.ref y :: st) M (K y)) : sm_S j k cs sl pc lf (.ref x :: st) M (sm_n x K) := h x
theorem sd_getT {a idx ci i : Nat} {K : Nat → Option ρ} (hs : sm_sq a = some (.inr ci)) (hk : sm_kd (sm_tf ci i) = 2) (hf : sm_fl k.1.cls idx ci i) (hb : sm_r0 S.2.2.1 S.2.2.2.1 S.2.2.2.2 a i = S.2.2.2.2) (hd : decode k.2.1 pc = .ok (.getfield idx, 3)) (h : ∀ b : Nat, sm_S j k cs sl (pc + 3) lf (.ref b :: st) (sm_m N S) (K b)) : sm_S j k cs sl pc lf (.ref a :: st) (sm_m N S) (S.2.2.2.2.bind K) := by
  intro r hr
  cases ht : S.2.2.2.2 with
  | none => rw [ht] at hr; cases hr
  | some b =>
    rw [ht] at hr
    exact sd_getR b hs hk hf (hb.trans ht) hd (h b) r hr
theorem sd_put {M M' : sm_M} {a idx ci i : Nat} {v : Value} (h3 : 3 ≤ a) (hs : M.1[a]? = some (.inr ci)) (hf : sm_fl k.1.cls idx ci i) (hfin : (sm_T ci i).2.2.2 = false ∨ ((sm_T ci i).2.2.2 = true ∧ k.1.name = "<init>" ∧ (sm_T ci i).1 = k.1.cls)) (hn : ∀ g : sm_G, narrow (sm_tf ci i) (sm_tv g v) = sm_tv g v ∧ fits (sm_tf ci i) (sm_tv g v) = true) (hs2 : M'.1 = M.1) (ho : ∀ b, b ≠ a → M'.2.1 b = M.2.1 b ∧ M'.2.2.1 b = M.2.2.1 b ∧ M'.2.2.2 b = M.2.2.2 b) (hv : ∀ (g : sm_G) (x : Nat), x < sm_nf ci → sm_fv g M' a ci x = if x = i then sm_tv g v else sm_fv g M a ci x) (hd : decode k.2.1 pc = .ok (.putfield idx, 3)) (h : sm_S j k cs sl (pc + 3) lf st M' o) : sm_S j k cs sl pc lf (v :: .ref a :: st) M o := by
  intro r hr nn g0 g p l e R s m args below meth c Q hC hx hn2 hQ H locs ls hM hS hL
  obtain ⟨hc, hi, hl⟩ := hf
  have hw := sm_w_at (g := g) hs h3
  have hE : sm_ce g M' a (.inr ci) = .inr (ci, ((List.range (sm_nf ci)).map (sm_fv g M a ci)).set i (sm_tv g v)) := by
    simp only [sm_ce]
    congr 2
    apply List.ext_getElem?
    intro x
    by_cases hx2 : x < sm_nf ci
    · rw [sm_fv_at hx2, hv g x hx2]
      by_cases hxi : x = i
      · subst hxi
        rw [List.getElem?_set_self (by simpa using hx2), if_pos rfl]
      · rw [List.getElem?_set_ne (Ne.symm hxi), sm_fv_at hx2, if_neg hxi]
    · rw [List.getElem?_eq_none (by simpa using hx2), List.getElem?_eq_none (by simpa using hx2)]
  have kk : ∀ (H1 : Heap) (locs1 : List Loc), va_P g.2.2.2.2.1 sm_cl ((sm_w g M).set (a - 3) (g.1 a, .inr (ci, ((List.range (sm_nf ci)).map (sm_fv g M a ci)).set i (sm_tv g v)))) H1 → va_D (sm_A g) ((sm_w g M).set (a - 3) (g.1 a, .inr (ci, ((List.range (sm_nf ci)).map (sm_fv g M a ci)).set i (sm_tv g v)))) → va_S (sm_A g) s.heap H1 locs1 → W p l e R s m args below meth c H1 locs1 cs sl Q (F0 m (pc + 3) ls (st.map (sm_tv g))) := fun H1 locs1 hP1 hD1 hS1 =>
    h r hr nn g0 g p l e R s m args below meth c Q hC hx (by rw [hs2]; exact hn2) hQ H1 locs1 ls (sm_R_set hM hs2 ho hs h3 hE hP1 hD1) hS1 hL
  rcases hfin with hfin | ⟨hfin, hini, hown⟩
  · exact va_put hC.1 hC.2.1 hC.2.2.2.2.2.1 (sm_cl_in ci hc) (sm_tf ci) (sm_cl_ty ci hc) (sm_cl_nm ci hc) hC.2.2.2.2.1 hC.2.2.2.2.2.2.2.2.2.1.1 hM.2.1 hM.2.2 hS (a - 3) hw (sm_cl_at ci hc) i hi (hC.2.2.2.2.2.1 _ hl) (fun _ z => z) hfin (sm_cl_ty ci hc i hi) (hn g).1 (hn g).2 (by simpa using hi) hd kk
  · exact va_putF hC.1 hC.2.1 hC.2.2.2.2.2.1 (sm_cl_in ci hc) (sm_tf ci) (sm_cl_ty ci hc) (sm_cl_nm ci hc) hC.2.2.2.2.1 hC.2.2.2.2.2.2.2.2.2.1.1 hM.2.1 hM.2.2 hS (a - 3) hw (sm_cl_at ci hc) i hi (hC.2.2.2.2.2.1 _ hl) (fun _ z => z) hfin (hC.2.2.2.2.2.2.2.1.trans hini) hown (sm_cl_ty ci hc i hi) (hn g).1 (hn g).2 (by simpa using hi) hd kk
theorem sd_putI {a idx ci i : Nat} {x : Int32} {K : sm_t → Option ρ} (hs : sm_sq a = some (.inr ci)) (hk : sm_tf ci i = .int) (hf : sm_fl k.1.cls idx ci i) (hfin : (sm_T ci i).2.2.2 = false) (hd : decode k.2.1 pc = .ok (.putfield idx, 3)) (h : ∀ S : sm_t, sm_S j k cs sl (pc + 3) lf st (sm_m N S) (K S)) : sm_S j k cs sl pc lf (.int x :: .ref a :: st) (sm_m N S) (sm_n (sm_wI S a i x) K) :=
  sd_put (sm_sq_at (n := N) (S := S) hs).1 (sm_sq_at hs).2 hf (Or.inl hfin) (fun g => by rw [hk]; exact ⟨rfl, rfl⟩) (M' := sm_m N (sm_wI S a i x)) rfl (fun b hb => ⟨sm_up_o _ _ hb, rfl, rfl⟩) (fun g z hz => by
    by_cases e : z = i
    · subst e
      rw [if_pos rfl]
      simp only [sm_fv, hk, sm_kd, sm_m, sm_wI, sm_up_s, upd, if_pos]
      rfl
    · rw [if_neg e]
      simp only [sm_fv, sm_m, sm_wI, sm_up_s, upd, if_neg e]) hd (h _)
theorem sd_putZ {a idx ci i : Nat} {x : Int32} {K : sm_t → Option ρ} (hx : x = 0 ∨ x = 1) (hs : sm_sq a = some (.inr ci)) (hk : sm_tf ci i = .boolean) (hf : sm_fl k.1.cls idx ci i) (hfin : (sm_T ci i).2.2.2 = false) (hd : decode k.2.1 pc = .ok (.putfield idx, 3)) (h : ∀ S : sm_t, sm_S j k cs sl (pc + 3) lf st (sm_m N S) (K S)) : sm_S j k cs sl pc lf (.int x :: .ref a :: st) (sm_m N S) (sm_n (sm_wI S a i x) K) :=
  sd_put (sm_sq_at (n := N) (S := S) hs).1 (sm_sq_at hs).2 hf (Or.inl hfin) (fun g => by rw [hk]; rcases hx with rfl | rfl <;> exact ⟨rfl, rfl⟩) (M' := sm_m N (sm_wI S a i x)) rfl (fun b hb => ⟨sm_up_o _ _ hb, rfl, rfl⟩) (fun g z hz => by
    by_cases e : z = i
    · subst e
      rw [if_pos rfl]
      simp only [sm_fv, hk, sm_kd, sm_m, sm_wI, sm_up_s, upd, if_pos]
      rfl
    · rw [if_neg e]
      simp only [sm_fv, sm_m, sm_wI, sm_up_s, upd, if_neg e]) hd (h _)
theorem sd_putL {a idx ci i : Nat} {x : Int64} {K : sm_t → Option ρ} (hs : sm_sq a = some (.inr ci)) (hk : sm_tf ci i = .long) (hf : sm_fl k.1.cls idx ci i) (hfin : (sm_T ci i).2.2.2 = false) (hd : decode k.2.1 pc = .ok (.putfield idx, 3)) (h : ∀ S : sm_t, sm_S j k cs sl (pc + 3) lf st (sm_m N S) (K S)) : sm_S j k cs sl pc lf (.long x :: .ref a :: st) (sm_m N S) (sm_n (sm_wL S a i x) K) :=
  sd_put (sm_sq_at (n := N) (S := S) hs).1 (sm_sq_at hs).2 hf (Or.inl hfin) (fun g => by rw [hk]; exact ⟨rfl, rfl⟩) (M' := sm_m N (sm_wL S a i x)) rfl (fun b hb => ⟨rfl, sm_up_o _ _ hb, rfl⟩) (fun g z hz => by
    by_cases e : z = i
    · subst e
      rw [if_pos rfl]
      simp only [sm_fv, hk, sm_kd, sm_m, sm_wL, sm_up_s, vp_updL, if_pos]
      rfl
    · rw [if_neg e]
      simp only [sm_fv, sm_m, sm_wL, sm_up_s, vp_updL, if_neg e]) hd (h _)
/-- the three references that change: Odds.now, Odds.next, Reader.text -/
theorem sd_putR {S' : sm_t} {a idx ci i b : Nat} (hs : sm_sq a = some (.inr ci)) (hk : sm_kd (sm_tf ci i) = 2) (hk2 : ∀ v : Nat, narrow (sm_tf ci i) (.ref v) = .ref v ∧ fits (sm_tf ci i) (.ref v) = true) (hf : sm_fl k.1.cls idx ci i) (hfin : (sm_T ci i).2.2.2 = false) (h1 : S'.1 = S.1) (h2 : S'.2.1 = S.2.1) (ho : ∀ x, x ≠ a → (sm_m N S').2.2.2 x = (sm_m N S).2.2.2 x) (hr2 : ∀ x, x < sm_nf ci → (sm_m N S').2.2.2 a x = if x = i then some b else (sm_m N S).2.2.2 a x) (hd : decode k.2.1 pc = .ok (.putfield idx, 3)) (h : sm_S j k cs sl (pc + 3) lf st (sm_m N S') o) : sm_S j k cs sl pc lf (.ref b :: .ref a :: st) (sm_m N S) o :=
  sd_put (sm_sq_at (n := N) (S := S) hs).1 (sm_sq_at hs).2 hf (Or.inl hfin) (fun g => hk2 (g.1 b)) (M' := sm_m N S') rfl (fun x hx => ⟨congrFun h1 x, congrFun h2 x, ho x hx⟩) (fun g z hz => by
    have e1 : (sm_m N S').2.1 = (sm_m N S).2.1 := h1
    have e2 : (sm_m N S').2.2.1 = (sm_m N S).2.2.1 := h2
    by_cases e : z = i
    · subst e
      rw [if_pos rfl]
      simp only [sm_fv, hk, hr2 z hz, if_pos]
      rfl
    · rw [if_neg e]
      simp only [sm_fv, e1, e2, hr2 z hz, if_neg e]) hd h
end
end
section
/-! ===== returns, calls, static arrays, System.arraycopy, Math ===== -/
def sm_en (n : Nat) (as : List Value) : List (Option Value) := (as.flatMap (fun v => if v.category = 2 then [some v, none] else [some v])) ++ List.replicate (n - (as.flatMap (fun v => if v.category = 2 then [some v, none] else [some v])).length) none
/-- a method's worth, from its entry -/
def sm_P {ρ : Type} (j : ρ → Option Value × sm_M) (k : sm_K) (as : List Value) (M : sm_M) (o : Option ρ) : Prop := sm_S j k 0 0 0 (sm_en k.2.2.1 as) [] M o
def sm_B (g : sm_G) (M : sm_M) (U : State) : Prop := g.2.1 ≤ U.heap.size ∧ sm_X g U U.heap ∧ sm_R g M U.heap
def sm_Qc (k : sm_K) (n : Nat) (g : sm_G) (r : Option Value × sm_M) : Array Value → State → Outcome → State → Prop := fun _ st oc t => oc = .returned r.1 ∧ (∃ g' : sm_G, sm_ext k n g g' ∧ sm_B g' r.2 t) ∧ va_F (sm_A g) st t
def sm_rm (k : sm_K) : Room := { frames := k.2.2.2.2.1, cells := k.2.2.2.2.2.1, slots := k.2.2.2.2.2.2, locals := 64 * k.2.2.2.2.1 }
def sm_ro (ty : Option FieldType) (v : Option Value) : Prop := match v with
  | some (.int _) => ty = some .int ∨ ty = some .boolean
  | some (.long _) => ty = some .long
  | none => ty = none
  | _ => False
theorem sm_ext_rf {k : sm_K} {n : Nat} {g : sm_G} : sm_ext k n g g := ⟨fun _ _ => rfl, rfl, fun _ => rfl⟩
theorem sm_A_eq {g g' : sm_G} (h : g'.2 = g.2) : sm_A g' = sm_A g := by unfold sm_A; rw [h]
/-- the entry's locals -/
theorem sm_L_en (g : sm_G) (n : Nat) (as : List Value) {ls : Array Slot} (h : lv_has ls n (lv_args 0 (as.map (sm_tv g)))) : sm_L g n (sm_en n as) ls := by
  refine ⟨h.1, h.2.1, fun i v hv => ?_⟩
  have key : ∀ (as : List Value) (d i : Nat) (v : Value), (as.flatMap (fun v => if v.category = 2 then [some v, none] else [some v]))[i]? = some (some v) → (d + i, sm_tv g v) ∈ lv_args d (as.map (sm_tv g)) := by
    intro as
    induction as with
    | nil => intro d i v h; simp at h
    | cons a as ih =>
      intro d i v h
      simp only [List.flatMap_cons] at h
      by_cases hc : a.category = 2
      · rw [if_pos hc] at h
        match i, h with
        | 0, h =>
          simp at h
          subst h
          simp [lv_args]
        | 1, h => simp at h
        | i + 2, h =>
          have h' : (as.flatMap (fun v => if v.category = 2 then [some v, none] else [some v]))[i]? = some (some v) := by simpa using h
          have := ih (d + 2) i v h'
          rw [show d + (i + 2) = d + 2 + i by omega]
          simp only [List.map_cons, lv_args, sm_tv_cat, hc]
          simp [this]
      · rw [if_neg hc] at h
        have hc1 : a.category = 1 := (lv_cat a).resolve_right hc
        match i, h with
        | 0, h =>
          simp at h
          subst h
          simp [lv_args]
        | i + 1, h =>
          have h' : (as.flatMap (fun v => if v.category = 2 then [some v, none] else [some v]))[i]? = some (some v) := by simpa using h
          have := ih (d + 1) i v h'
          rw [show d + (i + 1) = d + 1 + i by omega]
          simp only [List.map_cons, lv_args, sm_tv_cat, hc1]
          simp [this]
  unfold sm_en at hv
  by_cases hl : i < (as.flatMap (fun v => if v.category = 2 then [some v, none] else [some v])).length
  · rw [List.getElem?_append_left hl] at hv
    have := key as 0 i v hv
    rw [Nat.zero_add] at this
    exact h.2.2 _ this
  · rw [List.getElem?_append_right (by omega)] at hv
    rw [List.getElem?_replicate] at hv
    split at hv <;> cases hv
theorem sm_len (g : sm_G) (as : List Value) : (lg_sl (as.map (sm_tv g))).length = (as.flatMap (fun v => if v.category = 2 then [some v, none] else [some v])).length := by
  induction as with
  | nil => rfl
  | cons a as ih =>
    have h1 : lg_sl ((a :: as).map (sm_tv g)) = (if (sm_tv g a).category = 2 then [.val (sm_tv g a), .second] else [.val (sm_tv g a)]) ++ lg_sl (as.map (sm_tv g)) := by simp [lg_sl]
    rw [h1, List.flatMap_cons, List.length_append, List.length_append, ih, sm_tv_cat]
    split <;> rfl
set_option maxHeartbeats 1000000 in
/-- FROM THE WORTH TO THE MACHINE: a method's contract -/
theorem sm_met {ρ : Type} {j : ρ → Option Value × sm_M} {k : sm_K} {as : List Value} {M : sm_M} {o : Option ρ} (hy : plainName k.1.cls = true) (hcd : Cond.code k.1 k.2.1 k.2.2.1 k.2.2.2.1 ∈ sm_tb) (hP : sm_P j k as M o) {r : ρ} (hr : o = some r) (hro : sm_ro k.2.2.2.1 (j r).1) (hlen : (as.flatMap (fun v => if v.category = 2 then [some v, none] else [some v])).length ≤ k.2.2.1) (l : Launch) (g : sm_G) :
    Met l k.1 (Cond.code k.1 k.2.1 k.2.2.1 k.2.2.2.1 :: sm_tb) (sm_rm k) (va_Pc (as.map (sm_tv g)) (sm_B g M)) (sm_Qc k M.1.length g (j r)) k.2.2.2.2.2.1 k.2.2.2.2.2.2 (sm_A g) := by
  refine Met.ofW (cc := k.2.1) (maxL := k.2.2.1) (ret := k.2.2.2.1) hy rfl ?_
  intro p e s m args below meth c s₁ B hml hv
  obtain ⟨rfl, hbs, hX, hM⟩ := hv
  have hts0 := atoms_spec (ws := Cond.code k.1 k.2.1 k.2.2.1 k.2.2.2.1 :: sm_tb) B.pre
  have hts : ∀ w ∈ sm_tb, w.before (as.map (sm_tv g)).toArray s = true := fun w hw => hts0 w (List.mem_cons_of_mem _ hw)
  have hown : s.vm.findClass k.1.cls = some m.cls := findClass_of_methodNamed B.named
  have hlocks := B.notSynchronized
  have hin : meth.name = k.1.name := (name_of_methodNamed B.named B.method).1
  have hl := lv_entry (as.map (sm_tv g)) (n := k.2.2.1) (by rw [sm_len]; exact hlen)
  rw [lg_entry_eq]
  have hC : sm_C k g p (headSpec (Cond.code k.1 k.2.1 k.2.2.1 k.2.2.2.1 :: sm_tb) (sm_rm k)).room s m (as.map (sm_tv g)).toArray meth c := ⟨B.exec, B.bytes, B.returns, hml, hown, hts, hlocks, hin, hbs, hX, Nat.le_refl _, Nat.le_refl _, Nat.le_refl _, Nat.le_refl _⟩
  refine hP r hr M.1.length g g p l e _ s m _ below meth c _ hC sm_ext_rf (Nat.le_refl _) ?_ s.heap [] _ hM va_S.rf (sm_L_en g k.2.2.1 as hl)
  intro g' H locs ls pc cells slots hx hR hS h1 h2 hdc hz
  refine W.widen (k := k.2.2.2.2.2.1) (n := k.2.2.2.2.2.2) h1 h2 ?_
  have hB : ∀ t : State, t.heap = H → s.WarmedH t.vm → sm_Qc k M.1.length g (j r) (as.map (sm_tv g)).toArray s (.returned (j r).1) t := fun t ht hW => by
    refine ⟨rfl, ⟨g', hx, ?_, ?_, ?_⟩, hS.F ht⟩
    · rw [hx.2.1, ht]
      exact Nat.le_trans hbs hS.1
    · have hX2 := (hX.kept hS.1 hS.2.1).warm hW
      rw [← ht] at hX2
      obtain ⟨x1, x2, x3, x4, x5, x6, x7, x8, x9⟩ := hX2
      have e3 : 3 ≤ M.1.length := by
        have := (List.getElem?_eq_some_iff.mp hM.1.2.2.1).1
        omega
      have a0 : g'.1 0 = g.1 0 := hx.1 0 (by omega)
      have a1 : g'.1 1 = g.1 1 := hx.1 1 (by omega)
      have a2 : g'.1 2 = g.1 2 := hx.1 2 (by omega)
      have e4 : sm_A g' = sm_A g := sm_A_eq hx.2.1
      have e5 : sm_tys g' = sm_tys g := by unfold sm_tys; rw [hx.2.1]
      unfold sm_X
      rw [e4, e5, a0, a1, a2, hx.2.1]
      exact ⟨x1, x2, x3, x4, x5, x6, x7, x8, x9⟩
    · rw [ht]; exact hR
  generalize hj : (j r).1 = v at hro hdc hB hz ⊢
  match v, hro with
  | some (.int v), hro =>
    rcases hro with hro | hro
    · exact W.iret (v := v) B.exec B.bytes (B.returns.trans hro) hB hS.2.2 hdc hlocks
    · refine W.zret (v := v) (ty := .boolean) B.exec B.bytes (B.returns.trans hro) ?_ hB hS.2.2 hdc hlocks
      rcases hz v rfl hro with h | h <;> rw [h] <;> rfl
  | some (.long v), hro => exact W.lret (v := v) B.exec B.bytes (B.returns.trans hro) hB hS.2.2 hdc hlocks
  | none, hro => exact W.vret B.exec B.bytes (B.returns.trans hro) hB hS.2.2 hdc hlocks
theorem sm_gi2 {w : Cond} (h : w ∈ sm_tb) : GoodIn sm_tb (w :: sm_tb) := fun x hx => (List.mem_cons.mp hx).elim (fun e => e ▸ sm_gi w h) (sm_gi x)
/-- what the tables say of a method that is called -/
def sm_me (k : sm_K) (n : Nat) : Prop := plainName k.1.cls = true ∧ Cond.code k.1 k.2.1 k.2.2.1 k.2.2.2.1 ∈ sm_tb ∧ Cond.initialized k.1.cls ∈ sm_tb ∧ (k.1.cls ≠ "java/lang/invoke/MethodHandle" ∧ k.1.cls ≠ "java/lang/invoke/VarHandle" ∧ (parseMethodDescriptor k.1.desc).map (fun d => d.parameters.length) = some n)
theorem sm_bl {g : sm_G} {M : sm_M} {vs : List Value} : FrameBlind (va_Pc vs (sm_B g M)) := fun a U f mk q => by
  obtain ⟨q0, q1, q2, q3⟩ := q
  exact ⟨q0, q1, sm_X.moved (u := U) (U := U.calling f mk a) (Vm.Alike.refl U.vm) (sm_Nn.same (u := U) rfl q2.2.2.2.2.2.2.2.2) q2, q3⟩
theorem sm_pre {k : sm_K} {g : sm_G} {p : Program} {R : Room} {s : State} {m : MethodId} {args : Array Value} {meth : Method} {c : Code} {M : sm_M} {H : Heap} {locs : List Loc} {vs : List Value} (hC : sm_C k g p R s m args meth c) (hM : sm_R g M H) (hS : va_S (sm_A g) s.heap H locs) : ∀ U : State, U.heap = H → s.WarmedH U.vm → va_Pc vs (sm_B g M) vs.toArray U := fun U hU hW => by
  refine ⟨rfl, ?_, ?_, ?_⟩
  · rw [hU]
    exact Nat.le_trans hC.2.2.2.2.2.2.2.2.1 hS.1
  · rw [hU]
    exact (hC.2.2.2.2.2.2.2.2.2.1.kept hS.1 hS.2.1).warm hW
  · rw [hU]
    exact hM
theorem sm_cats (g : sm_G) (l : List Value) : ((l.map (sm_tv g)).map fun v => v.category).sum = (l.map fun v => v.category).sum := by
  induction l with
  | nil => rfl
  | cons a l ih => simp only [List.map_cons, List.sum_cons, ih, sm_tv_cat]
theorem sm_call {p : Program} {l : Launch} {e : Env} {R : Room} {s : State} {m : MethodId} {args a : Array Value} {below : List Frame} {meth : Method} {c : Code} {H : Heap} {locs : List Loc} {cells slots mc ms pc n : Nat} {Q : State → Prop} {ls : Array Slot} {st0 rest : List Value} {k2 : sm_K} {g : sm_G} {r : Option Value × sm_M} (hr : va_Run p l e R s m args below meth c H locs cells slots mc ms (F0 m pc ls st0) rest (sm_Qc k2 n g r a) (sm_A g)) (hS : va_S (sm_A g) s.heap H locs)
    (kk : ∀ (g' : sm_G) (H1 : Heap) (locs1 : List Loc), sm_ext k2 n g g' → sm_R g' r.2 H1 → va_S (sm_A g) s.heap H1 locs1 → W p l e R s m args below meth c H1 locs1 (cells + mc) (slots + ms) Q (F0 m (pc + 3) ls (r.1.toList ++ rest))) : W p l e R s m args below meth c H locs cells slots Q (F0 m pc ls st0) := by
  intro T hT X
  obtain ⟨v, st₀, t, T', L, h0, X', hL, e1, e2, ⟨hv, ⟨g', hx, hb1, hb2, hb3⟩, hz, hk⟩, st⟩ := hr T hT X
  cases hv
  rw [h0] at hz hk
  rw [← e1] at hb3
  obtain ⟨t2, a1, b1⟩ := kk g' T'.heap (locs ++ L) hx hb3
    ⟨Nat.le_trans hS.1 (by rw [e1]; exact hz), fun q h1 h2 => by rw [e1, hk q (Nat.lt_of_lt_of_le h1 hS.1) h2]; exact hS.2.1 q h1 h2, fun q hq => by
      rcases List.mem_append.mp hq with h | h
      · exact hS.2.2 q h
      · exact hL q h⟩ T' rfl X'
  exact ⟨t2, st t2 a1, b1⟩
section
variable {ρ ρ2 : Type} {j : ρ → Option Value × sm_M} {j2 : ρ2 → Option Value × sm_M} {k k2 : sm_K} {cs sl pc N : Nat} {lf : List (Option Value)} {st As rest : List Value} {S : sm_t} {M : sm_M} {o2 : Option ρ2} {K : ρ2 → Option ρ}
/-- static -/
theorem sd_cS (idx : Nat) (hd : decode k.2.1 pc = .ok (.invokestatic idx, 3)) (hl : Cond.methodLink k.1.cls idx k2.1 ∈ sm_tb) (hstt : Cond.static k2.1 ∈ sm_tb) (hme : sm_me k2 As.length) (hz : k2.2.2.2.2.2.1 = 0 ∧ k2.2.2.2.2.2.2 = 0) (hfr : k2.2.2.2.2.1 + 1 ≤ k.2.2.2.2.1 ∧ k2.2.2.1 ≤ 45) (hrs : (rest.map fun v => v.category).sum ≤ 8) (hen : (As.flatMap (fun v => if v.category = 2 then [some v, none] else [some v])).length ≤ k2.2.2.1) (hro : ∀ r, sm_ro k2.2.2.2.1 (j2 r).1) (hvv : ∀ r g, (j2 r).1.toList.map (sm_tv g) = (j2 r).1.toList) (hml : ∀ r, (j2 r).2.1 = M.1) (hcs : cs ≤ k.2.2.2.2.2.1) (hsl : sl ≤ k.2.2.2.2.2.2) (hst : st = As.reverse ++ rest) (hp : sm_P j2 k2 (As) M o2) (h : ∀ r2, o2 = some r2 → sm_S j k cs sl (pc + 3) lf ((j2 r2).1.toList ++ rest) (j2 r2).2 (K r2)) : sm_S j k cs sl pc lf st M (o2.bind K) := by
  intro r hr n g0 g p l e R s m args below meth c Q hC hx hn hQ H locs ls hM hS hL
  cases ho : o2 with
  | none => rw [ho] at hr; cases hr
  | some r2 =>
    rw [ho] at hr
    have hr : K r2 = some r := hr
    have hMet := sm_met hme.1 hme.2.1 hp ho (hro r2) hen l g
    rw [hz.1, hz.2] at hMet
    have hts := hC.2.2.2.2.2.1
    have hfr1 : (sm_rm k2).frames + 1 ≤ R.frames := Nat.le_trans hfr.1 hC.2.2.2.2.2.2.2.2.2.2.1
    have hfr2 : 8 + (k2.2.2.1 + 11) + (sm_rm k2).locals ≤ R.locals := by
      have h1 := hC.2.2.2.2.2.2.2.2.2.2.2.1
      have h2 := hfr.1
      have h3 := hfr.2
      show 8 + (k2.2.2.1 + 11) + 64 * k2.2.2.2.2.1 ≤ R.locals
      omega
    have hf : cs + 0 ≤ R.cells ∧ sl + 0 ≤ R.slots := ⟨Nat.le_trans hcs hC.2.2.2.2.2.2.2.2.2.2.2.2.1, Nat.le_trans hsl hC.2.2.2.2.2.2.2.2.2.2.2.2.2⟩
    have hrun : va_Run p l e R s m args below meth c H locs cs sl 0 0 (F0 m pc ls (st.map (sm_tv g))) (rest.map (sm_tv g)) (sm_Qc k2 M.1.length g (j2 r2) ((As).map (sm_tv g)).toArray) (sm_A g) := by
      exact va_runS (n := As.length) ⟨hC.1, hC.2.1, hC.2.2.2.1, hC.2.2.2.2.1, hts⟩ hMet ⟨callB_of As.length hts (sm_gi2 hme.2.1) rfl hz.1 hz.2 (hts _ hme.2.2.1) (hts _ hl) hme.2.2.2 ⟨hfr1, hfr2⟩, hts _ hstt⟩ ⟨sm_bl, sm_pre hC hM hS⟩ rfl (by rw [List.length_map]) (hL.1) (by subst hst; simp [List.map_reverse, sm_tv]) (by rw [show (F0 m pc ls (st.map (sm_tv g))).monitorRoom = 0 from rfl, sm_cats]; omega) hd hf
    refine sm_call hrun hS (fun g' H1 locs1 hx1 hR1 hS1 => ?_)
    have hg : g' = g := hx1.2.2 hz.1
    subst hg
    have hk := h r2 ho r hr n g0 g' p l e R s m args below meth c Q hC hx (by rw [hml r2]; exact hn) hQ H1 locs1 ls hR1 hS1 hL
    rw [List.map_append, hvv r2 g'] at hk
    exact hk
/-- static, private, of the same nest -/
theorem sd_cN (idx : Nat) (host : String) (hd : decode k.2.1 pc = .ok (.invokestatic idx, 3)) (hl : (k.1.cls, idx, k2.1, host) ∈ sm_nl) (hstt : Cond.static k2.1 ∈ sm_tb) (hme : sm_me k2 As.length) (hz : k2.2.2.2.2.2.1 = 0 ∧ k2.2.2.2.2.2.2 = 0) (hfr : k2.2.2.2.2.1 + 1 ≤ k.2.2.2.2.1 ∧ k2.2.2.1 ≤ 45) (hrs : (rest.map fun v => v.category).sum ≤ 8) (hen : (As.flatMap (fun v => if v.category = 2 then [some v, none] else [some v])).length ≤ k2.2.2.1) (hro : ∀ r, sm_ro k2.2.2.2.1 (j2 r).1) (hvv : ∀ r g, (j2 r).1.toList.map (sm_tv g) = (j2 r).1.toList) (hml : ∀ r, (j2 r).2.1 = M.1) (hcs : cs ≤ k.2.2.2.2.2.1) (hsl : sl ≤ k.2.2.2.2.2.2) (hst : st = As.reverse ++ rest) (hp : sm_P j2 k2 (As) M o2) (h : ∀ r2, o2 = some r2 → sm_S j k cs sl (pc + 3) lf ((j2 r2).1.toList ++ rest) (j2 r2).2 (K r2)) : sm_S j k cs sl pc lf st M (o2.bind K) := by
  intro r hr n g0 g p l e R s m args below meth c Q hC hx hn hQ H locs ls hM hS hL
  cases ho : o2 with
  | none => rw [ho] at hr; cases hr
  | some r2 =>
    rw [ho] at hr
    have hr : K r2 = some r := hr
    have hMet := sm_met hme.1 hme.2.1 hp ho (hro r2) hen l g
    rw [hz.1, hz.2] at hMet
    have hts := hC.2.2.2.2.2.1
    have hfr1 : (sm_rm k2).frames + 1 ≤ R.frames := Nat.le_trans hfr.1 hC.2.2.2.2.2.2.2.2.2.2.1
    have hfr2 : 8 + (k2.2.2.1 + 11) + (sm_rm k2).locals ≤ R.locals := by
      have h1 := hC.2.2.2.2.2.2.2.2.2.2.2.1
      have h2 := hfr.1
      have h3 := hfr.2
      show 8 + (k2.2.2.1 + 11) + 64 * k2.2.2.2.2.1 ≤ R.locals
      omega
    have hf : cs + 0 ≤ R.cells ∧ sl + 0 ≤ R.slots := ⟨Nat.le_trans hcs hC.2.2.2.2.2.2.2.2.2.2.2.2.1, Nat.le_trans hsl hC.2.2.2.2.2.2.2.2.2.2.2.2.2⟩
    have hrun : va_Run p l e R s m args below meth c H locs cs sl 0 0 (F0 m pc ls (st.map (sm_tv g))) (rest.map (sm_tv g)) (sm_Qc k2 M.1.length g (j2 r2) ((As).map (sm_tv g)).toArray) (sm_A g) := by
      exact va_runSN (n := As.length) ⟨hC.1, hC.2.1, hC.2.2.2.1, hC.2.2.2.2.1, hts⟩ hMet ⟨va_cnB As.length hts (sm_gi2 hme.2.1) rfl hz.1 hz.2 (hC.2.2.2.2.2.2.2.2.2.1.2.2.2.2.2.2.2.2.1 _ hl) (hts _ hme.2.2.1) hme.2.2.2 ⟨hfr1, hfr2⟩, hts _ hstt, trivial⟩ ⟨sm_bl, sm_pre hC hM hS⟩ rfl (by rw [List.length_map]) (hL.1) (by subst hst; simp [List.map_reverse, sm_tv]) (by rw [show (F0 m pc ls (st.map (sm_tv g))).monitorRoom = 0 from rfl, sm_cats]; omega) hd hf
    refine sm_call hrun hS (fun g' H1 locs1 hx1 hR1 hS1 => ?_)
    have hg : g' = g := hx1.2.2 hz.1
    subst hg
    have hk := h r2 ho r hr n g0 g' p l e R s m args below meth c Q hC hx (by rw [hml r2]; exact hn) hQ H1 locs1 ls hR1 hS1 hL
    rw [List.map_append, hvv r2 g'] at hk
    exact hk
/-- of an object -/
theorem sd_cV (idx : Nat) {b ci : Nat} (h3 : 3 ≤ b) (hb : M.1[b]? = some (.inr ci)) (hci : ci < 8) (hcl : k2.1.cls = sm_Rn ci) (hd : decode k.2.1 pc = .ok (.invokevirtual idx, 3)) (hl : Cond.methodLink k.1.cls idx k2.1 ∈ sm_tb) (hins : Cond.instanceMethod k2.1 ∈ sm_tb) (hsel : Cond.selects k2.1.cls k2.1 k2.1 ∈ sm_tb) (hme : sm_me k2 As.length) (hz : k2.2.2.2.2.2.1 = 0 ∧ k2.2.2.2.2.2.2 = 0) (hfr : k2.2.2.2.2.1 + 1 ≤ k.2.2.2.2.1 ∧ k2.2.2.1 ≤ 45) (hrs : (rest.map fun v => v.category).sum ≤ 8) (hen : ((.ref b :: As : List Value).flatMap (fun v => if v.category = 2 then [some v, none] else [some v])).length ≤ k2.2.2.1) (hro : ∀ r, sm_ro k2.2.2.2.1 (j2 r).1) (hvv : ∀ r g, (j2 r).1.toList.map (sm_tv g) = (j2 r).1.toList) (hml : ∀ r, (j2 r).2.1 = M.1) (hcs : cs ≤ k.2.2.2.2.2.1) (hsl : sl ≤ k.2.2.2.2.2.2) (hst : st = As.reverse ++ .ref b :: rest) (hp : sm_P j2 k2 (.ref b :: As) M o2) (h : ∀ r2, o2 = some r2 → sm_S j k cs sl (pc + 3) lf ((j2 r2).1.toList ++ rest) (j2 r2).2 (K r2)) : sm_S j k cs sl pc lf st M (o2.bind K) := by
  intro r hr n g0 g p l e R s m args below meth c Q hC hx hn hQ H locs ls hM hS hL
  cases ho : o2 with
  | none => rw [ho] at hr; cases hr
  | some r2 =>
    rw [ho] at hr
    have hr : K r2 = some r := hr
    have hMet := sm_met hme.1 hme.2.1 hp ho (hro r2) hen l g
    rw [hz.1, hz.2] at hMet
    have hts := hC.2.2.2.2.2.1
    have hfr1 : (sm_rm k2).frames + 1 ≤ R.frames := Nat.le_trans hfr.1 hC.2.2.2.2.2.2.2.2.2.2.1
    have hfr2 : 8 + (k2.2.2.1 + 11) + (sm_rm k2).locals ≤ R.locals := by
      have h1 := hC.2.2.2.2.2.2.2.2.2.2.2.1
      have h2 := hfr.1
      have h3 := hfr.2
      show 8 + (k2.2.2.1 + 11) + 64 * k2.2.2.2.2.1 ≤ R.locals
      omega
    have hf : cs + 0 ≤ R.cells ∧ sl + 0 ≤ R.slots := ⟨Nat.le_trans hcs hC.2.2.2.2.2.2.2.2.2.2.2.2.1, Nat.le_trans hsl hC.2.2.2.2.2.2.2.2.2.2.2.2.2⟩
    have hrun : va_Run p l e R s m args below meth c H locs cs sl 0 0 (F0 m pc ls (st.map (sm_tv g))) (rest.map (sm_tv g)) (sm_Qc k2 M.1.length g (j2 r2) ((.ref b :: As).map (sm_tv g)).toArray) (sm_A g) := by
      exact va_runV (n := As.length) (C := k2.1.cls) (b := g.1 b) (As := As.map (sm_tv g)) ⟨hC.1, hC.2.1, hC.2.2.2.1, hC.2.2.2.2.1, hts⟩ hMet ⟨callB_of As.length hts (sm_gi2 hme.2.1) rfl hz.1 hz.2 (hts _ hme.2.2.1) (hts _ hl) hme.2.2.2 ⟨hfr1, hfr2⟩, hts _ hins, hts _ hsel⟩ ⟨sm_bl, by rw [hcl]; exact va_recv hC.2.2.2.2.2.2.2.2.2.1.1 hM.2.1 (sm_cl_at ci hci) (sm_w_at hb h3), sm_pre (vs := .ref (g.1 b) :: As.map (sm_tv g)) hC hM hS⟩ rfl (by rw [List.length_map]) (hL.1) (by subst hst; simp [List.map_reverse, sm_tv]) (by rw [show (F0 m pc ls (st.map (sm_tv g))).monitorRoom = 0 from rfl, sm_cats]; omega) hd hf
    refine sm_call hrun hS (fun g' H1 locs1 hx1 hR1 hS1 => ?_)
    have hg : g' = g := hx1.2.2 hz.1
    subst hg
    have hk := h r2 ho r hr n g0 g' p l e R s m args below meth c Q hC hx (by rw [hml r2]; exact hn) hQ H1 locs1 ls hR1 hS1 hL
    rw [List.map_append, hvv r2 g'] at hk
    exact hk
end
end
section
/-! ===== returns; calls by what they answer; static arrays; System.arraycopy; Math ===== -/
section
variable {ρ : Type} {j : ρ → Option Value × sm_M} {k k2 : sm_K} {cs sl pc N : Nat} {lf : List (Option Value)} {st As rest : List Value} {S : sm_t} {M : sm_M} {o : Option ρ}
theorem sd_iret {v : Int32} (hd : decode k.2.1 pc = .ok (.ireturn, 1)) (hk : k.2.2.2.1 = some .int) (hcs : cs ≤ k.2.2.2.2.2.1) (hsl : sl ≤ k.2.2.2.2.2.2) : sm_S (sm_jI N) k cs sl pc lf [.int v] (sm_m N S) (some (v, S)) := by
  intro r hr nn g0 g p l e R s m args below meth c Q hC hx hn hQ H locs ls hM hS hL
  cases hr
  exact hQ g H locs ls pc cs sl hx hM (sm_A_eq hx.2.1 ▸ hS) hcs hsl hd (fun _ _ hb => absurd (hk.symm.trans hb) (by decide))
theorem sd_zret {v : Int32} (hd : decode k.2.1 pc = .ok (.ireturn, 1)) (hv : v = 0 ∨ v = 1) (hcs : cs ≤ k.2.2.2.2.2.1) (hsl : sl ≤ k.2.2.2.2.2.2) : sm_S (sm_jI N) k cs sl pc lf [.int v] (sm_m N S) (some (v, S)) := by
  intro r hr nn g0 g p l e R s m args below meth c Q hC hx hn hQ H locs ls hM hS hL
  cases hr
  exact hQ g H locs ls pc cs sl hx hM (sm_A_eq hx.2.1 ▸ hS) hcs hsl hd (fun u hu _ => by cases hu; exact hv)
theorem sd_lret {v : Int64} (hd : decode k.2.1 pc = .ok (.lreturn, 1))  (hcs : cs ≤ k.2.2.2.2.2.1) (hsl : sl ≤ k.2.2.2.2.2.2) : sm_S (sm_jL N) k cs sl pc lf [.long v] (sm_m N S) (some (v, S)) := by
  intro r hr nn g0 g p l e R s m args below meth c Q hC hx hn hQ H locs ls hM hS hL
  cases hr
  exact hQ g H locs ls pc cs sl hx hM (sm_A_eq hx.2.1 ▸ hS) hcs hsl hd (fun _ hu => by cases hu)
theorem sd_vret (hd : decode k.2.1 pc = .ok (.return_, 1)) (hcs : cs ≤ k.2.2.2.2.2.1) (hsl : sl ≤ k.2.2.2.2.2.2) : sm_S (sm_jV N) k cs sl pc lf [] (sm_m N S) (some S) := by
  intro r hr nn g0 g p l e R s m args below meth c Q hC hx hn hQ H locs ls hM hS hL
  cases hr
  exact hQ g H locs ls pc cs sl hx hM (sm_A_eq hx.2.1 ▸ hS) hcs hsl hd (fun _ hu => by cases hu)
def sm_rz (v : Int32) (S : sm_t) : Option (Int32 × sm_t) := if v = 0 ∨ v = 1 then some (v, S) else none
theorem sd_zrv {v : Int32} (hd : decode k.2.1 pc = .ok (.ireturn, 1)) (hcs : cs ≤ k.2.2.2.2.2.1) (hsl : sl ≤ k.2.2.2.2.2.2) : sm_S (sm_jI N) k cs sl pc lf [.int v] (sm_m N S) (sm_rz v S) := by
  unfold sm_rz
  by_cases q : v = 0 ∨ v = 1
  · rw [if_pos q]
    exact sd_zret hd q hcs hsl
  · rw [if_neg q]
    exact sd_none
def sm_cI {ρ : Type} (o : Option (Int32 × sm_t)) (K : Int32 → sm_t → Option ρ) : Option ρ := o.bind fun q => K q.1 q.2
def sm_cL {ρ : Type} (o : Option (Int64 × sm_t)) (K : Int64 → sm_t → Option ρ) : Option ρ := o.bind fun q => K q.1 q.2
def sm_cV {ρ : Type} (o : Option sm_t) (K : sm_t → Option ρ) : Option ρ := o.bind K
theorem sd_cSI {o2 : Option (Int32 × sm_t)} {K : Int32 → sm_t → Option ρ} (idx : Nat) (hd : decode k.2.1 pc = .ok (.invokestatic idx, 3)) (hl : Cond.methodLink k.1.cls idx k2.1 ∈ sm_tb) (hstt : Cond.static k2.1 ∈ sm_tb) (hme : sm_me k2 As.length) (hz : k2.2.2.2.2.2.1 = 0 ∧ k2.2.2.2.2.2.2 = 0) (hfr : k2.2.2.2.2.1 + 1 ≤ k.2.2.2.2.1 ∧ k2.2.2.1 ≤ 45) (hrs : (rest.map fun v => v.category).sum ≤ 8) (hen : (As.flatMap (fun v => if v.category = 2 then [some v, none] else [some v])).length ≤ k2.2.2.1) (hro : k2.2.2.2.1 = some .int ∨ k2.2.2.2.1 = some .boolean) (hcs : cs ≤ k.2.2.2.2.2.1) (hsl : sl ≤ k.2.2.2.2.2.2) (hst : st = As.reverse ++ rest) (hp : sm_P (sm_jI N) k2 As (sm_m N S) o2) (h : ∀ (v : Int32) (S : sm_t), sm_S j k cs sl (pc + 3) lf (.int v :: rest) (sm_m N S) (K v S)) : sm_S j k cs sl pc lf st (sm_m N S) (sm_cI o2 K) :=
  sd_cS (j2 := sm_jI N) idx hd hl hstt hme hz hfr hrs hen (fun _ => hro) (fun _ _ => rfl) (fun _ => rfl) hcs hsl hst hp (fun q _ => h q.1 q.2)
theorem sd_cSL {o2 : Option (Int64 × sm_t)} {K : Int64 → sm_t → Option ρ} (idx : Nat) (hd : decode k.2.1 pc = .ok (.invokestatic idx, 3)) (hl : Cond.methodLink k.1.cls idx k2.1 ∈ sm_tb) (hstt : Cond.static k2.1 ∈ sm_tb) (hme : sm_me k2 As.length) (hz : k2.2.2.2.2.2.1 = 0 ∧ k2.2.2.2.2.2.2 = 0) (hfr : k2.2.2.2.2.1 + 1 ≤ k.2.2.2.2.1 ∧ k2.2.2.1 ≤ 45) (hrs : (rest.map fun v => v.category).sum ≤ 8) (hen : (As.flatMap (fun v => if v.category = 2 then [some v, none] else [some v])).length ≤ k2.2.2.1) (hro : k2.2.2.2.1 = some .long) (hcs : cs ≤ k.2.2.2.2.2.1) (hsl : sl ≤ k.2.2.2.2.2.2) (hst : st = As.reverse ++ rest) (hp : sm_P (sm_jL N) k2 As (sm_m N S) o2) (h : ∀ (v : Int64) (S : sm_t), sm_S j k cs sl (pc + 3) lf (.long v :: rest) (sm_m N S) (K v S)) : sm_S j k cs sl pc lf st (sm_m N S) (sm_cL o2 K) :=
  sd_cS (j2 := sm_jL N) idx hd hl hstt hme hz hfr hrs hen (fun _ => hro) (fun _ _ => rfl) (fun _ => rfl) hcs hsl hst hp (fun q _ => h q.1 q.2)
theorem sd_cSV {o2 : Option (sm_t)} {K : sm_t → Option ρ} (idx : Nat) (hd : decode k.2.1 pc = .ok (.invokestatic idx, 3)) (hl : Cond.methodLink k.1.cls idx k2.1 ∈ sm_tb) (hstt : Cond.static k2.1 ∈ sm_tb) (hme : sm_me k2 As.length) (hz : k2.2.2.2.2.2.1 = 0 ∧ k2.2.2.2.2.2.2 = 0) (hfr : k2.2.2.2.2.1 + 1 ≤ k.2.2.2.2.1 ∧ k2.2.2.1 ≤ 45) (hrs : (rest.map fun v => v.category).sum ≤ 8) (hen : (As.flatMap (fun v => if v.category = 2 then [some v, none] else [some v])).length ≤ k2.2.2.1) (hro : k2.2.2.2.1 = none) (hcs : cs ≤ k.2.2.2.2.2.1) (hsl : sl ≤ k.2.2.2.2.2.2) (hst : st = As.reverse ++ rest) (hp : sm_P (sm_jV N) k2 As (sm_m N S) o2) (h : ∀ (S : sm_t), sm_S j k cs sl (pc + 3) lf rest (sm_m N S) (K S)) : sm_S j k cs sl pc lf st (sm_m N S) (sm_cV o2 K) :=
  sd_cS (j2 := sm_jV N) idx hd hl hstt hme hz hfr hrs hen (fun _ => hro) (fun _ _ => rfl) (fun _ => rfl) hcs hsl hst hp (fun q _ => h q)
theorem sd_cNI {o2 : Option (Int32 × sm_t)} {K : Int32 → sm_t → Option ρ} (idx : Nat) (host : String) (hd : decode k.2.1 pc = .ok (.invokestatic idx, 3)) (hl : (k.1.cls, idx, k2.1, host) ∈ sm_nl) (hstt : Cond.static k2.1 ∈ sm_tb) (hme : sm_me k2 As.length) (hz : k2.2.2.2.2.2.1 = 0 ∧ k2.2.2.2.2.2.2 = 0) (hfr : k2.2.2.2.2.1 + 1 ≤ k.2.2.2.2.1 ∧ k2.2.2.1 ≤ 45) (hrs : (rest.map fun v => v.category).sum ≤ 8) (hen : (As.flatMap (fun v => if v.category = 2 then [some v, none] else [some v])).length ≤ k2.2.2.1) (hro : k2.2.2.2.1 = some .int ∨ k2.2.2.2.1 = some .boolean) (hcs : cs ≤ k.2.2.2.2.2.1) (hsl : sl ≤ k.2.2.2.2.2.2) (hst : st = As.reverse ++ rest) (hp : sm_P (sm_jI N) k2 As (sm_m N S) o2) (h : ∀ (v : Int32) (S : sm_t), sm_S j k cs sl (pc + 3) lf (.int v :: rest) (sm_m N S) (K v S)) : sm_S j k cs sl pc lf st (sm_m N S) (sm_cI o2 K) :=
  sd_cN (j2 := sm_jI N) idx host hd hl hstt hme hz hfr hrs hen (fun _ => hro) (fun _ _ => rfl) (fun _ => rfl) hcs hsl hst hp (fun q _ => h q.1 q.2)
theorem sd_cNL {o2 : Option (Int64 × sm_t)} {K : Int64 → sm_t → Option ρ} (idx : Nat) (host : String) (hd : decode k.2.1 pc = .ok (.invokestatic idx, 3)) (hl : (k.1.cls, idx, k2.1, host) ∈ sm_nl) (hstt : Cond.static k2.1 ∈ sm_tb) (hme : sm_me k2 As.length) (hz : k2.2.2.2.2.2.1 = 0 ∧ k2.2.2.2.2.2.2 = 0) (hfr : k2.2.2.2.2.1 + 1 ≤ k.2.2.2.2.1 ∧ k2.2.2.1 ≤ 45) (hrs : (rest.map fun v => v.category).sum ≤ 8) (hen : (As.flatMap (fun v => if v.category = 2 then [some v, none] else [some v])).length ≤ k2.2.2.1) (hro : k2.2.2.2.1 = some .long) (hcs : cs ≤ k.2.2.2.2.2.1) (hsl : sl ≤ k.2.2.2.2.2.2) (hst : st = As.reverse ++ rest) (hp : sm_P (sm_jL N) k2 As (sm_m N S) o2) (h : ∀ (v : Int64) (S : sm_t), sm_S j k cs sl (pc + 3) lf (.long v :: rest) (sm_m N S) (K v S)) : sm_S j k cs sl pc lf st (sm_m N S) (sm_cL o2 K) :=
  sd_cN (j2 := sm_jL N) idx host hd hl hstt hme hz hfr hrs hen (fun _ => hro) (fun _ _ => rfl) (fun _ => rfl) hcs hsl hst hp (fun q _ => h q.1 q.2)
theorem sd_cNV {o2 : Option (sm_t)} {K : sm_t → Option ρ} (idx : Nat) (host : String) (hd : decode k.2.1 pc = .ok (.invokestatic idx, 3)) (hl : (k.1.cls, idx, k2.1, host) ∈ sm_nl) (hstt : Cond.static k2.1 ∈ sm_tb) (hme : sm_me k2 As.length) (hz : k2.2.2.2.2.2.1 = 0 ∧ k2.2.2.2.2.2.2 = 0) (hfr : k2.2.2.2.2.1 + 1 ≤ k.2.2.2.2.1 ∧ k2.2.2.1 ≤ 45) (hrs : (rest.map fun v => v.category).sum ≤ 8) (hen : (As.flatMap (fun v => if v.category = 2 then [some v, none] else [some v])).length ≤ k2.2.2.1) (hro : k2.2.2.2.1 = none) (hcs : cs ≤ k.2.2.2.2.2.1) (hsl : sl ≤ k.2.2.2.2.2.2) (hst : st = As.reverse ++ rest) (hp : sm_P (sm_jV N) k2 As (sm_m N S) o2) (h : ∀ (S : sm_t), sm_S j k cs sl (pc + 3) lf rest (sm_m N S) (K S)) : sm_S j k cs sl pc lf st (sm_m N S) (sm_cV o2 K) :=
  sd_cN (j2 := sm_jV N) idx host hd hl hstt hme hz hfr hrs hen (fun _ => hro) (fun _ _ => rfl) (fun _ => rfl) hcs hsl hst hp (fun q _ => h q)
theorem sd_cVI {o2 : Option (Int32 × sm_t)} {K : Int32 → sm_t → Option ρ} {b ci : Nat} (idx : Nat) (hb : sm_sq b = some (.inr ci)) (hci : ci < 8) (hcl : k2.1.cls = sm_Rn ci) (hd : decode k.2.1 pc = .ok (.invokevirtual idx, 3)) (hl : Cond.methodLink k.1.cls idx k2.1 ∈ sm_tb) (hins : Cond.instanceMethod k2.1 ∈ sm_tb) (hsel : Cond.selects k2.1.cls k2.1 k2.1 ∈ sm_tb) (hme : sm_me k2 As.length) (hz : k2.2.2.2.2.2.1 = 0 ∧ k2.2.2.2.2.2.2 = 0) (hfr : k2.2.2.2.2.1 + 1 ≤ k.2.2.2.2.1 ∧ k2.2.2.1 ≤ 45) (hrs : (rest.map fun v => v.category).sum ≤ 8) (hen : ((.ref b :: As : List Value).flatMap (fun v => if v.category = 2 then [some v, none] else [some v])).length ≤ k2.2.2.1) (hro : k2.2.2.2.1 = some .int ∨ k2.2.2.2.1 = some .boolean) (hcs : cs ≤ k.2.2.2.2.2.1) (hsl : sl ≤ k.2.2.2.2.2.2) (hst : st = As.reverse ++ .ref b :: rest) (hp : sm_P (sm_jI N) k2 (.ref b :: As : List Value) (sm_m N S) o2) (h : ∀ (v : Int32) (S : sm_t), sm_S j k cs sl (pc + 3) lf (.int v :: rest) (sm_m N S) (K v S)) : sm_S j k cs sl pc lf st (sm_m N S) (sm_cI o2 K) :=
  sd_cV (j2 := sm_jI N) idx (sm_sq_at (n := N) (S := S) hb).1 (sm_sq_at hb).2 hci hcl hd hl hins hsel hme hz hfr hrs hen (fun _ => hro) (fun _ _ => rfl) (fun _ => rfl) hcs hsl hst hp (fun q _ => h q.1 q.2)
theorem sd_cVL {o2 : Option (Int64 × sm_t)} {K : Int64 → sm_t → Option ρ} {b ci : Nat} (idx : Nat) (hb : sm_sq b = some (.inr ci)) (hci : ci < 8) (hcl : k2.1.cls = sm_Rn ci) (hd : decode k.2.1 pc = .ok (.invokevirtual idx, 3)) (hl : Cond.methodLink k.1.cls idx k2.1 ∈ sm_tb) (hins : Cond.instanceMethod k2.1 ∈ sm_tb) (hsel : Cond.selects k2.1.cls k2.1 k2.1 ∈ sm_tb) (hme : sm_me k2 As.length) (hz : k2.2.2.2.2.2.1 = 0 ∧ k2.2.2.2.2.2.2 = 0) (hfr : k2.2.2.2.2.1 + 1 ≤ k.2.2.2.2.1 ∧ k2.2.2.1 ≤ 45) (hrs : (rest.map fun v => v.category).sum ≤ 8) (hen : ((.ref b :: As : List Value).flatMap (fun v => if v.category = 2 then [some v, none] else [some v])).length ≤ k2.2.2.1) (hro : k2.2.2.2.1 = some .long) (hcs : cs ≤ k.2.2.2.2.2.1) (hsl : sl ≤ k.2.2.2.2.2.2) (hst : st = As.reverse ++ .ref b :: rest) (hp : sm_P (sm_jL N) k2 (.ref b :: As : List Value) (sm_m N S) o2) (h : ∀ (v : Int64) (S : sm_t), sm_S j k cs sl (pc + 3) lf (.long v :: rest) (sm_m N S) (K v S)) : sm_S j k cs sl pc lf st (sm_m N S) (sm_cL o2 K) :=
  sd_cV (j2 := sm_jL N) idx (sm_sq_at (n := N) (S := S) hb).1 (sm_sq_at hb).2 hci hcl hd hl hins hsel hme hz hfr hrs hen (fun _ => hro) (fun _ _ => rfl) (fun _ => rfl) hcs hsl hst hp (fun q _ => h q.1 q.2)
theorem sd_cVV {o2 : Option (sm_t)} {K : sm_t → Option ρ} {b ci : Nat} (idx : Nat) (hb : sm_sq b = some (.inr ci)) (hci : ci < 8) (hcl : k2.1.cls = sm_Rn ci) (hd : decode k.2.1 pc = .ok (.invokevirtual idx, 3)) (hl : Cond.methodLink k.1.cls idx k2.1 ∈ sm_tb) (hins : Cond.instanceMethod k2.1 ∈ sm_tb) (hsel : Cond.selects k2.1.cls k2.1 k2.1 ∈ sm_tb) (hme : sm_me k2 As.length) (hz : k2.2.2.2.2.2.1 = 0 ∧ k2.2.2.2.2.2.2 = 0) (hfr : k2.2.2.2.2.1 + 1 ≤ k.2.2.2.2.1 ∧ k2.2.2.1 ≤ 45) (hrs : (rest.map fun v => v.category).sum ≤ 8) (hen : ((.ref b :: As : List Value).flatMap (fun v => if v.category = 2 then [some v, none] else [some v])).length ≤ k2.2.2.1) (hro : k2.2.2.2.1 = none) (hcs : cs ≤ k.2.2.2.2.2.1) (hsl : sl ≤ k.2.2.2.2.2.2) (hst : st = As.reverse ++ .ref b :: rest) (hp : sm_P (sm_jV N) k2 (.ref b :: As : List Value) (sm_m N S) o2) (h : ∀ (S : sm_t), sm_S j k cs sl (pc + 3) lf rest (sm_m N S) (K S)) : sm_S j k cs sl pc lf st (sm_m N S) (sm_cV o2 K) :=
  sd_cV (j2 := sm_jV N) idx (sm_sq_at (n := N) (S := S) hb).1 (sm_sq_at hb).2 hci hcl hd hl hins hsel hme hz hfr hrs hen (fun _ => hro) (fun _ _ => rfl) (fun _ => rfl) hcs hsl hst hp (fun q _ => h q)
theorem sd_gs0 {idx : Nat} (hl : Cond.fieldLink k.1.cls idx "TwoFliers$Chart" "STEP_X" "[I" ∈ sm_tb) (hd : decode k.2.1 pc = .ok (.getstatic idx, 3)) (h : sm_S j k cs sl (pc + 3) lf (.ref 0 :: st) M o) : sm_S j k cs sl pc lf st M o := by
  intro r hr nn g0 g p l e R s m args below meth c Q hC hx hn hQ H locs ls hM hS hL
  exact va_gets hC.1 hC.2.1 hC.2.2.2.2.2.2.2.2.2.1.2.1 hS hC.2.2.2.2.1 (hC.2.2.2.2.2.1 _ hl) (fun _ z => z) hd (h r hr nn g0 g p l e R s m args below meth c Q hC hx hn hQ H locs ls hM hS hL)
theorem sd_ts0 {i : Int32} {K : Int32 → Option ρ} (hd : decode k.2.1 pc = .ok (.iaload, 1)) (h : ∀ v : Int32, sm_S j k cs sl (pc + 1) lf (.int v :: st) M (K v)) : sm_S j k cs sl pc lf (.int i :: .ref 0 :: st) M (sm_rd sm_sx 8 i K) := by
  intro r hr nn g0 g p l e R s m args below meth c Q hC hx hn hQ H locs ls hM hS hL
  unfold sm_rd at hr
  split at hr
  · rename_i hi
    exact va_ti hC.1 hC.2.1 hC.2.2.2.2.2.2.2.2.2.1.2.2.2.1 hS (sm_ix_in hi) rfl hd (h _ r hr nn g0 g p l e R s m args below meth c Q hC hx hn hQ H locs ls hM hS hL)
  · cases hr
theorem sd_gs1 {idx : Nat} (hl : Cond.fieldLink k.1.cls idx "TwoFliers$Chart" "STEP_Y" "[I" ∈ sm_tb) (hd : decode k.2.1 pc = .ok (.getstatic idx, 3)) (h : sm_S j k cs sl (pc + 3) lf (.ref 1 :: st) M o) : sm_S j k cs sl pc lf st M o := by
  intro r hr nn g0 g p l e R s m args below meth c Q hC hx hn hQ H locs ls hM hS hL
  exact va_gets hC.1 hC.2.1 hC.2.2.2.2.2.2.2.2.2.1.2.2.1 hS hC.2.2.2.2.1 (hC.2.2.2.2.2.1 _ hl) (fun _ z => z) hd (h r hr nn g0 g p l e R s m args below meth c Q hC hx hn hQ H locs ls hM hS hL)
theorem sd_ts1 {i : Int32} {K : Int32 → Option ρ} (hd : decode k.2.1 pc = .ok (.iaload, 1)) (h : ∀ v : Int32, sm_S j k cs sl (pc + 1) lf (.int v :: st) M (K v)) : sm_S j k cs sl pc lf (.int i :: .ref 1 :: st) M (sm_rd sm_sy 8 i K) := by
  intro r hr nn g0 g p l e R s m args below meth c Q hC hx hn hQ H locs ls hM hS hL
  unfold sm_rd at hr
  split at hr
  · rename_i hi
    exact va_ti hC.1 hC.2.1 hC.2.2.2.2.2.2.2.2.2.1.2.2.2.2.1 hS (sm_ix_in hi) rfl hd (h _ r hr nn g0 g p l e R s m args below meth c Q hC hx hn hQ H locs ls hM hS hL)
  · cases hr
/-- the script (cell 2) -/
theorem sd_sld {i : Int32} {K : Int32 → Option ρ} (hd : decode k.2.1 pc = .ok (.iaload, 1)) (h : ∀ v : Int32, sm_S j k cs sl (pc + 1) lf (.int v :: st) (sm_m N S) (K v)) : sm_S j k cs sl pc lf (.int i :: .ref 2 :: st) (sm_m N S) (sm_rd (S.1 2) N i K) := by
  intro r hr nn g0 g p l e R s m args below meth c Q hC hx hn hQ H locs ls hM hS hL
  unfold sm_rd at hr
  split at hr
  · rename_i hi
    obtain ⟨-, -, -, -, -, h6, h7, h8, -⟩ := hC.2.2.2.2.2.2.2.2.2.1
    have eN : N = g.2.2.1 := by
      have := hM.1.2.2.1
      exact congrArg Prod.snd (Sum.inl.inj (Option.some.inj this))
    have eX : S.1 2 = g.2.2.2.1 := hM.1.2.2.2.2.2
    rw [eX] at hr
    subst eN
    exact va_sld hC.1 hC.2.1 h6 h7 h8 hS (sm_ix_in hi) hd (h _ r hr nn g0 g p l e R s m args below meth c Q hC hx hn hQ H locs ls hM hS hL)
  · cases hr
theorem sd_slen (hd : decode k.2.1 pc = .ok (.arraylength, 1)) (h : sm_S j k cs sl (pc + 1) lf (.int (Int32.ofNat N) :: st) (sm_m N S) o) : sm_S j k cs sl pc lf (.ref 2 :: st) (sm_m N S) o := by
  intro r hr nn g0 g p l e R s m args below meth c Q hC hx hn hQ H locs ls hM hS hL
  obtain ⟨-, -, -, -, -, h6, h7, h8, -⟩ := hC.2.2.2.2.2.2.2.2.2.1
  have eN : N = g.2.2.1 := by
    have := hM.1.2.2.1
    exact congrArg Prod.snd (Sum.inl.inj (Option.some.inj this))
  subst eN
  exact va_slen hC.1 hC.2.1 h6 h7 h8 hS hd (h r hr nn g0 g p l e R s m args below meth c Q hC hx hn hQ H locs ls hM hS hL)
def sm_cp {ρ : Type} (S : sm_t) (a n0 d n1 : Nat) (sp dp n : Int32) (K : sm_t → Option ρ) : Option ρ := if ¬ sp < 0 ∧ ¬ dp < 0 ∧ ¬ n < 0 ∧ sp.toNatClampNeg + n.toNatClampNeg ≤ n0 ∧ dp.toNatClampNeg + n.toNatClampNeg ≤ n1 then K (va_up S.1 d (va_cpy (S.1 a) (S.1 d) sp.toNatClampNeg dp.toNatClampNeg n.toNatClampNeg), S.2) else none
theorem sm_nat : Cond.native arraycopyName ∈ sm_tb ∧ Cond.static arraycopyName ∈ sm_tb ∧ Cond.initialized "java/lang/System" ∈ sm_tb := ⟨sm_at 348 (by decide +kernel) rfl, sm_at 347 (by decide +kernel) rfl, sm_at 78 (by decide +kernel) rfl⟩
theorem sd_copy {a n0 d n1 : Nat} {sp dp n : Int32} {K : sm_t → Option ρ} (idx : Nat) (hl : Cond.methodLink k.1.cls idx arraycopyName ∈ sm_tb) (ha : sm_sq a = some (.inl (.int, n0))) (hd1 : sm_sq d = some (.inl (.int, n1))) (hk : 1 ≤ k.2.2.2.2.1) (hrs : (st.map fun v => v.category).sum ≤ 8) (hd : decode k.2.1 pc = .ok (.invokestatic idx, 3)) (h : ∀ S : sm_t, sm_S j k cs sl (pc + 3) lf st (sm_m N S) (K S)) : sm_S j k cs sl pc lf (.int n :: .int dp :: .ref d :: .int sp :: .ref a :: st) (sm_m N S) (sm_cp S a n0 d n1 sp dp n K) := by
  intro r hr nn g0 g p l e R s m args below meth c Q hC hx hn hQ H locs ls hM hS hL
  unfold sm_cp at hr
  split at hr
  · rename_i hi
    obtain ⟨i1, i2, i3, i4, i5⟩ := hi
    obtain ⟨h3, hs'⟩ := sm_sq_at (n := N) (S := S) ha
    obtain ⟨h4, ht'⟩ := sm_sq_at (n := N) (S := S) hd1
    have hw : (sm_w g (sm_m N S))[a - 3]? = some (g.1 a, .inl (g.2.2.2.2.2 .int, n0, .inl (S.1 a))) := sm_w_at hs' h3
    have hw2 : (sm_w g (sm_m N S))[d - 3]? = some (g.1 d, .inl (g.2.2.2.2.2 .int, n1, .inl (S.1 d))) := sm_w_at ht' h4
    have hts := hC.2.2.2.2.2.1
    have hfr : 1 ≤ R.frames := Nat.le_trans hk hC.2.2.2.2.2.2.2.2.2.2.1
    have hlo : ((st.map (sm_tv g)).map fun v => v.category).sum + (nativeFrameWords "java/lang/System" "arraycopy" 5 + 11) ≤ R.locals := by
      rw [sm_cats]
      have h1 := hC.2.2.2.2.2.2.2.2.2.2.2.1
      have h2 : nativeFrameWords "java/lang/System" "arraycopy" 5 ≤ 45 := by decide +kernel
      omega
    refine va_copyi hC.1 hC.2.1 (hC.2.2.2.1.trans hL.1.symm) hC.2.2.2.2.1 (hts _ hl) (hts _ sm_nat.1) (hts _ sm_nat.2.1) (hts _ sm_nat.2.2) hC.2.2.2.2.2.2.2.2.2.1.1 hM.2.1 hM.2.2 hS (a - 3) (d - 3) 0 0 hw hw2 rfl rfl rfl i1 i2 i3 i4 i5 (fun _ _ => rfl) hfr hlo hd (fun H1 locs1 hP1 hD1 hS1 => ?_)
    exact h _ r hr nn g0 g p l e R s m args below meth c Q hC hx hn hQ H1 locs1 ls (sm_R_set (M' := sm_m N (va_up S.1 d (va_cpy (S.1 a) (S.1 d) sp.toNatClampNeg dp.toNatClampNeg n.toNatClampNeg), S.2)) hM rfl (fun b hb => ⟨sm_up_o _ _ hb, rfl, rfl⟩) ht' h4 (by simp only [sm_ce, sm_ar, sm_kd, sm_m, sm_up_s]) hP1 hD1) hS1 hL
  · cases hr
def sm_mx (x y : Int32) : Int32 := if x < y then y else x
def sm_mi (x y : Int32) : Int32 := if y < x then y else x
def sm_ab (x : Int32) : Int32 := if 0 ≤ x then x else 0 - x
def sm_al (x : Int64) : Int64 := if 0 < x then x else -x
theorem sm_wmmax : Cond.static Lib.Math.max.name ∈ sm_tb ∧ Cond.initialized "java/lang/Math" ∈ sm_tb ∧ Cond.code Lib.Math.max.name Lib.Math.max.code 2 (some .int) ∈ sm_tb := ⟨sm_at 451 (by decide +kernel) rfl, sm_at 80 (by decide +kernel) rfl, sm_at 452 (by decide +kernel) rfl⟩
theorem sd_mmax {x y : Int32} (idx : Nat) (hl : Cond.methodLink k.1.cls idx Lib.Math.max.name ∈ sm_tb) (hk : 1 ≤ k.2.2.2.2.1) (hrs : (st.map fun v => v.category).sum ≤ 8) (hcs : cs ≤ k.2.2.2.2.2.1) (hsl : sl ≤ k.2.2.2.2.2.2) (hd : decode k.2.1 pc = .ok (.invokestatic idx, 3)) (h : sm_S j k cs sl (pc + 3) lf (.int (sm_mx x y) :: st) M o) : sm_S j k cs sl pc lf (.int y :: .int x :: st) M o := by
  intro r hr nn g0 g p l e R s m args below meth c Q hC hx hn hQ H locs ls hM hS hL
  have hts := hC.2.2.2.2.2.1
  have hfr : 1 ≤ R.frames := Nat.le_trans hk hC.2.2.2.2.2.2.2.2.2.2.1
  have hlo : ((st.map (sm_tv g)).map fun v => v.category).sum + 13 ≤ R.locals := by
    rw [sm_cats]
    have h1 := hC.2.2.2.2.2.2.2.2.2.2.2.1
    omega
  exact va_mmax hC.1 hC.2.1 (hC.2.2.2.1.trans hL.1.symm) hC.2.2.2.2.1 (hts _ hl) (hts _ sm_wmmax.1) (hts _ sm_wmmax.2.1) (hts _ sm_wmmax.2.2) hfr hlo (Nat.le_trans hcs hC.2.2.2.2.2.2.2.2.2.2.2.2.1) (Nat.le_trans hsl hC.2.2.2.2.2.2.2.2.2.2.2.2.2) hd (h r hr nn g0 g p l e R s m args below meth c Q hC hx hn hQ H locs ls hM hS hL)
theorem sm_wmmin : Cond.static Lib.Math.min.name ∈ sm_tb ∧ Cond.initialized "java/lang/Math" ∈ sm_tb ∧ Cond.code Lib.Math.min.name Lib.Math.min.code 2 (some .int) ∈ sm_tb := ⟨sm_at 554 (by decide +kernel) rfl, sm_at 80 (by decide +kernel) rfl, sm_at 555 (by decide +kernel) rfl⟩
theorem sd_mmin {x y : Int32} (idx : Nat) (hl : Cond.methodLink k.1.cls idx Lib.Math.min.name ∈ sm_tb) (hk : 1 ≤ k.2.2.2.2.1) (hrs : (st.map fun v => v.category).sum ≤ 8) (hcs : cs ≤ k.2.2.2.2.2.1) (hsl : sl ≤ k.2.2.2.2.2.2) (hd : decode k.2.1 pc = .ok (.invokestatic idx, 3)) (h : sm_S j k cs sl (pc + 3) lf (.int (sm_mi x y) :: st) M o) : sm_S j k cs sl pc lf (.int y :: .int x :: st) M o := by
  intro r hr nn g0 g p l e R s m args below meth c Q hC hx hn hQ H locs ls hM hS hL
  have hts := hC.2.2.2.2.2.1
  have hfr : 1 ≤ R.frames := Nat.le_trans hk hC.2.2.2.2.2.2.2.2.2.2.1
  have hlo : ((st.map (sm_tv g)).map fun v => v.category).sum + 13 ≤ R.locals := by
    rw [sm_cats]
    have h1 := hC.2.2.2.2.2.2.2.2.2.2.2.1
    omega
  exact va_mmin hC.1 hC.2.1 (hC.2.2.2.1.trans hL.1.symm) hC.2.2.2.2.1 (hts _ hl) (hts _ sm_wmmin.1) (hts _ sm_wmmin.2.1) (hts _ sm_wmmin.2.2) hfr hlo (Nat.le_trans hcs hC.2.2.2.2.2.2.2.2.2.2.2.2.1) (Nat.le_trans hsl hC.2.2.2.2.2.2.2.2.2.2.2.2.2) hd (h r hr nn g0 g p l e R s m args below meth c Q hC hx hn hQ H locs ls hM hS hL)
theorem sm_wmabs : Cond.static Lib.Math.abs.name ∈ sm_tb ∧ Cond.initialized "java/lang/Math" ∈ sm_tb ∧ Cond.code Lib.Math.abs.name Lib.Math.abs.code 1 (some .int) ∈ sm_tb := ⟨sm_at 448 (by decide +kernel) rfl, sm_at 80 (by decide +kernel) rfl, sm_at 449 (by decide +kernel) rfl⟩
theorem sd_mabs {x : Int32} (idx : Nat) (hl : Cond.methodLink k.1.cls idx Lib.Math.abs.name ∈ sm_tb) (hk : 1 ≤ k.2.2.2.2.1) (hrs : (st.map fun v => v.category).sum ≤ 8) (hcs : cs ≤ k.2.2.2.2.2.1) (hsl : sl ≤ k.2.2.2.2.2.2) (hd : decode k.2.1 pc = .ok (.invokestatic idx, 3)) (h : sm_S j k cs sl (pc + 3) lf (.int (sm_ab x) :: st) M o) : sm_S j k cs sl pc lf (.int x :: st) M o := by
  intro r hr nn g0 g p l e R s m args below meth c Q hC hx hn hQ H locs ls hM hS hL
  have hts := hC.2.2.2.2.2.1
  have hfr : 1 ≤ R.frames := Nat.le_trans hk hC.2.2.2.2.2.2.2.2.2.2.1
  have hlo : ((st.map (sm_tv g)).map fun v => v.category).sum + 13 ≤ R.locals := by
    rw [sm_cats]
    have h1 := hC.2.2.2.2.2.2.2.2.2.2.2.1
    omega
  exact va_mabs hC.1 hC.2.1 (hC.2.2.2.1.trans hL.1.symm) hC.2.2.2.2.1 (hts _ hl) (hts _ sm_wmabs.1) (hts _ sm_wmabs.2.1) (hts _ sm_wmabs.2.2) hfr hlo (Nat.le_trans hcs hC.2.2.2.2.2.2.2.2.2.2.2.2.1) (Nat.le_trans hsl hC.2.2.2.2.2.2.2.2.2.2.2.2.2) hd (h r hr nn g0 g p l e R s m args below meth c Q hC hx hn hQ H locs ls hM hS hL)
theorem sm_wmabs_long : Cond.static Lib.MathLoose.abs_long.x ∈ sm_tb ∧ Cond.initialized "java/lang/Math" ∈ sm_tb ∧ Cond.code Lib.MathLoose.abs_long.x Lib.MathLoose.abs_long.code 2 (some .long) ∈ sm_tb := ⟨sm_at 675 (by decide +kernel) rfl, sm_at 80 (by decide +kernel) rfl, sm_at 676 (by decide +kernel) rfl⟩
theorem sd_mabs_long {x : Int64} (idx : Nat) (hl : Cond.methodLink k.1.cls idx Lib.MathLoose.abs_long.x ∈ sm_tb) (hk : 1 ≤ k.2.2.2.2.1) (hrs : (st.map fun v => v.category).sum ≤ 8) (hcs : cs ≤ k.2.2.2.2.2.1) (hsl : sl ≤ k.2.2.2.2.2.2) (hd : decode k.2.1 pc = .ok (.invokestatic idx, 3)) (h : sm_S j k cs sl (pc + 3) lf (.long (sm_al x) :: st) M o) : sm_S j k cs sl pc lf (.long x :: st) M o := by
  intro r hr nn g0 g p l e R s m args below meth c Q hC hx hn hQ H locs ls hM hS hL
  have hts := hC.2.2.2.2.2.1
  have hfr : 1 ≤ R.frames := Nat.le_trans hk hC.2.2.2.2.2.2.2.2.2.2.1
  have hlo : ((st.map (sm_tv g)).map fun v => v.category).sum + 13 ≤ R.locals := by
    rw [sm_cats]
    have h1 := hC.2.2.2.2.2.2.2.2.2.2.2.1
    omega
  exact va_mabs_long hC.1 hC.2.1 (hC.2.2.2.1.trans hL.1.symm) hC.2.2.2.2.1 (hts _ hl) (hts _ sm_wmabs_long.1) (hts _ sm_wmabs_long.2.1) (hts _ sm_wmabs_long.2.2) hfr hlo (Nat.le_trans hcs hC.2.2.2.2.2.2.2.2.2.2.2.2.1) (Nat.le_trans hsl hC.2.2.2.2.2.2.2.2.2.2.2.2.2) hd (h r hr nn g0 g p l e R s m args below meth c Q hC hx hn hQ H locs ls hM hS hL)
end
end
section
/-! ===== the three references that change; switches ===== -/
theorem sm_so {x lo hi : Int32} {l h : Int} (hl : lo.toInt = l) (hh : hi.toInt = h) (q : x < lo ∨ hi < x) : x.toInt < l ∨ h < x.toInt := by
  rcases q with q | q
  · exact Or.inl (hl ▸ Int32.lt_iff_toInt_lt.mp q)
  · exact Or.inr (hh ▸ Int32.lt_iff_toInt_lt.mp q)
section
variable {ρ : Type} {j : ρ → Option Value × sm_M} {k : sm_K} {cs sl pc N : Nat} {lf : List (Option Value)} {st : List Value} {S : sm_t}
theorem sd_pnw {idx b : Nat} {K : sm_t → Option ρ} (hf : sm_fl k.1.cls idx 1 6) (hd : decode k.2.1 pc = .ok (.putfield idx, 3)) (h : ∀ S : sm_t, sm_S j k cs sl (pc + 3) lf st (sm_m N S) (K S)) : sm_S j k cs sl pc lf (.ref b :: .ref 18 :: st) (sm_m N S) (sm_n ((S.1, S.2.1, b, S.2.2.2) : sm_t) K) :=
  sd_putR (S' := (S.1, S.2.1, b, S.2.2.2)) (ci := 1) (i := 6) rfl rfl (fun _ => ⟨rfl, rfl⟩) hf rfl rfl rfl (fun x hx => by funext z; simp [sm_m, sm_r0, hx]) (fun x hx => by
    match x, hx with
    | 0, _ => rfl
    | 1, _ => rfl
    | 2, _ => rfl
    | 3, _ => rfl
    | 4, _ => rfl
    | 5, _ => rfl
    | 6, _ => rfl
    | 7, _ => rfl) hd (h _)
theorem sd_pnx {idx b : Nat} {K : sm_t → Option ρ} (hf : sm_fl k.1.cls idx 1 7) (hd : decode k.2.1 pc = .ok (.putfield idx, 3)) (h : ∀ S : sm_t, sm_S j k cs sl (pc + 3) lf st (sm_m N S) (K S)) : sm_S j k cs sl pc lf (.ref b :: .ref 18 :: st) (sm_m N S) (sm_n ((S.1, S.2.1, S.2.2.1, b, S.2.2.2.2) : sm_t) K) :=
  sd_putR (S' := (S.1, S.2.1, S.2.2.1, b, S.2.2.2.2)) (ci := 1) (i := 7) rfl rfl (fun _ => ⟨rfl, rfl⟩) hf rfl rfl rfl (fun x hx => by funext z; simp [sm_m, sm_r0, hx]) (fun x hx => by
    match x, hx with
    | 0, _ => rfl
    | 1, _ => rfl
    | 2, _ => rfl
    | 3, _ => rfl
    | 4, _ => rfl
    | 5, _ => rfl
    | 6, _ => rfl
    | 7, _ => rfl) hd (h _)
theorem sd_ptx {idx b : Nat} {K : sm_t → Option ρ} (hf : sm_fl k.1.cls idx 3 0) (hd : decode k.2.1 pc = .ok (.putfield idx, 3)) (h : ∀ S : sm_t, sm_S j k cs sl (pc + 3) lf st (sm_m N S) (K S)) : sm_S j k cs sl pc lf (.ref b :: .ref 45 :: st) (sm_m N S) (sm_n ((S.1, S.2.1, S.2.2.1, S.2.2.2.1, some b) : sm_t) K) :=
  sd_putR (S' := (S.1, S.2.1, S.2.2.1, S.2.2.2.1, some b)) (ci := 3) (i := 0) rfl rfl (fun _ => ⟨rfl, rfl⟩) hf rfl rfl rfl (fun x hx => by funext z; simp [sm_m, sm_r0, hx]) (fun x hx => by
    match x, hx with
    | 0, _ => rfl
    | 1, _ => rfl
    | 2, _ => rfl
    | 3, _ => rfl
    | 4, _ => rfl
    | 5, _ => rfl) hd (h _)
end
/-! a word by its place in one of the tables -/
theorem sm_qq {w : Cond} (h : w ∈ tables_1) (hg : goodWord w = true) : w ∈ sm_tb := List.mem_filter.mpr ⟨List.mem_append_right _ h, hg⟩
theorem sm_q1 (i : Nat) {w : Cond} (h : tables_1_1[i]? = some w) (hg : goodWord w = true) : w ∈ sm_tb := sm_qq (List.mem_append_left _ (List.mem_of_getElem? h)) hg
theorem sm_q2 (i : Nat) {w : Cond} (h : tables_1_2[i]? = some w) (hg : goodWord w = true) : w ∈ sm_tb := sm_qq (List.mem_append_right _ (List.mem_append_left _ (List.mem_of_getElem? h))) hg
theorem sm_q3 (i : Nat) {w : Cond} (h : tables_1_3[i]? = some w) (hg : goodWord w = true) : w ∈ sm_tb := sm_qq (List.mem_append_right _ (List.mem_append_right _ (List.mem_append_left _ (List.mem_of_getElem? h)))) hg
theorem sm_q4 (i : Nat) {w : Cond} (h : tables_1_4[i]? = some w) (hg : goodWord w = true) : w ∈ sm_tb := sm_qq (List.mem_append_right _ (List.mem_append_right _ (List.mem_append_right _ (List.mem_append_left _ (List.mem_of_getElem? h))))) hg
theorem sm_q5 (i : Nat) {w : Cond} (h : tables_1_5[i]? = some w) (hg : goodWord w = true) : w ∈ sm_tb := sm_qq (List.mem_append_right _ (List.mem_append_right _ (List.mem_append_right _ (List.mem_append_right _ (List.mem_append_left _ (List.mem_of_getElem? h)))))) hg
theorem sm_q6 (i : Nat) {w : Cond} (h : tables_1_6[i]? = some w) (hg : goodWord w = true) : w ∈ sm_tb := sm_qq (List.mem_append_right _ (List.mem_append_right _ (List.mem_append_right _ (List.mem_append_right _ (List.mem_append_right _ (List.mem_of_getElem? h)))))) hg
end
section
/-! ===== new T[n][k], out of the model's own words ===== -/
/-- a row of K values v -/
def mg_row (c : ClassId) (K : Nat) (v : Value) : Cell := { cls := c, slots := Array.replicate K v, vm := .none }
/-- the outer array: the first i of its N places are laid with the cells behind h0 -/
def mg_out (c : ClassId) (N h0 i : Nat) : Cell := arrV c N (fun j => va_rf (if j < i then some (h0 + 1 + j) else none))
/-- what stands when i rows are made -/
def mg_st (s : State) (cA cy : ClassId) (N K : Nat) (v : Value) (i : Nat) : State := { s with heap := s.heap.push (mg_out cA N s.heap.size i) ++ Array.replicate i (mg_row cy K v), slotsUsed := s.slotsUsed + N + i * K }
theorem mg_size (s : State) (cA cy : ClassId) (N K : Nat) (v : Value) (i : Nat) : (mg_st s cA cy N K v i).heap.size = s.heap.size + 1 + i := by
  show (s.heap.push (mg_out cA N s.heap.size i) ++ Array.replicate i (mg_row cy K v)).size = _
  rw [Array.size_append, Array.size_push, Array.size_replicate]
theorem mg_old (s : State) (cA cy : ClassId) (N K : Nat) (v : Value) (i : Nat) {a : Nat} (h : a < s.heap.size) : (mg_st s cA cy N K v i).heap[a]? = s.heap[a]? := by
  show (s.heap.push (mg_out cA N s.heap.size i) ++ Array.replicate i (mg_row cy K v))[a]? = _
  rw [Array.getElem?_append_left (by rw [Array.size_push]; omega), Array.getElem?_push, if_neg (by omega)]
theorem mg_top (s : State) (cA cy : ClassId) (N K : Nat) (v : Value) (i : Nat) : (mg_st s cA cy N K v i).heap[s.heap.size]? = some (mg_out cA N s.heap.size i) := by
  show (s.heap.push (mg_out cA N s.heap.size i) ++ Array.replicate i (mg_row cy K v))[s.heap.size]? = _
  rw [Array.getElem?_append_left (by rw [Array.size_push]; omega), Array.getElem?_push, if_pos rfl]
theorem mg_in (s : State) (cA cy : ClassId) (N K : Nat) (v : Value) (i : Nat) {j : Nat} (h : j < i) : (mg_st s cA cy N K v i).heap[s.heap.size + 1 + j]? = some (mg_row cy K v) := by
  show (s.heap.push (mg_out cA N s.heap.size i) ++ Array.replicate i (mg_row cy K v))[s.heap.size + 1 + j]? = _
  rw [Array.getElem?_append_right (by rw [Array.size_push]; omega), Array.size_push, Array.getElem?_replicate, if_pos (by omega)]
theorem mg_out_zero (c : ClassId) (N h0 : Nat) : ({ cls := c, slots := Array.replicate N .null, vm := .none } : Cell) = mg_out c N h0 0 := by
  rw [arrV_new]
  exact congrArg (arrV c N) (funext fun j => by simp [va_rf])
theorem mg_out_succ (c : ClassId) (N h0 i : Nat) : (mg_out c N h0 i).setSlot i (.ref (h0 + 1 + i)) = mg_out c N h0 (i + 1) := by
  unfold mg_out
  rw [arrV_store]
  refine congrArg (arrV c N) (funext fun j => ?_)
  unfold updV
  by_cases e : j = i
  · rw [if_pos e, e, if_pos (Nat.lt_succ_self i)]
    rfl
  · rw [if_neg e]
    show va_rf (if j < i then some (h0 + 1 + j) else none) = _
    by_cases h : j < i
    · rw [if_pos h, if_pos (by omega)]
    · rw [if_neg h, if_neg (by omega)]
theorem mg_zero (s : State) (cA cy : ClassId) (N K : Nat) (v : Value) : s.pushCell { cls := cA, slots := Array.replicate N .null, vm := .none } = mg_st s cA cy N K v 0 := by
  rw [mg_out_zero cA N s.heap.size]
  unfold mg_st State.pushCell
  have h1 : (mg_out cA N s.heap.size 0).slots.size = N := arrV_size _ _ _
  rw [h1]
  simp
theorem mg_succ (s : State) (cA cy : ClassId) (N K : Nat) (v : Value) (i : Nat) : ((mg_st s cA cy N K v i).pushCell (mg_row cy K v)).setCell s.heap.size ((mg_out cA N s.heap.size i).setSlot i (.ref (s.heap.size + 1 + i))) = mg_st s cA cy N K v (i + 1) := by
  rw [mg_out_succ]
  have hs : (mg_row cy K v).slots.size = K := Array.size_replicate
  have hh : ((s.heap.push (mg_out cA N s.heap.size i) ++ Array.replicate i (mg_row cy K v)).push (mg_row cy K v)).setIfInBounds s.heap.size (mg_out cA N s.heap.size (i + 1)) = s.heap.push (mg_out cA N s.heap.size (i + 1)) ++ Array.replicate (i + 1) (mg_row cy K v) := by
    apply Array.ext_getElem?
    intro a
    rw [Array.getElem?_setIfInBounds]
    by_cases h0 : s.heap.size = a
    · rw [if_pos h0, ← h0, if_pos (by rw [Array.size_push, Array.size_append, Array.size_push]; omega), Array.getElem?_append_left (by rw [Array.size_push]; omega), Array.getElem?_push, if_pos rfl]
    · rw [if_neg h0, Array.getElem?_push, Array.size_append, Array.size_push, Array.size_replicate]
      by_cases h1 : a < s.heap.size
      · rw [if_neg (by omega), Array.getElem?_append_left (by rw [Array.size_push]; omega), Array.getElem?_append_left (by rw [Array.size_push]; omega), Array.getElem?_push, Array.getElem?_push, if_neg (by omega), if_neg (by omega)]
      · rw [Array.getElem?_append_right (ys := Array.replicate (i + 1) (mg_row cy K v)) (by rw [Array.size_push]; omega), Array.size_push, Array.getElem?_replicate]
        by_cases h2 : a = s.heap.size + 1 + i
        · rw [if_pos h2, if_pos (by omega)]
        · rw [if_neg h2, Array.getElem?_append_right (by rw [Array.size_push]; omega), Array.size_push, Array.getElem?_replicate]
          by_cases h3 : a - (s.heap.size + 1) < i
          · rw [if_pos h3, if_pos (by omega)]
          · rw [if_neg h3, if_neg (by omega)]
  unfold mg_st State.pushCell State.setCell
  rw [hs]
  simp only [hh]
  congr 1
  rw [Nat.succ_mul]
  omega
section MGS
variable {p : Program} {l : Launch} {e : Env} {R : Room} {s : State} {m : MethodId} {args : Array Value} {below : List Frame} {meth : Method} {c : Code} {T : State} {locs : List Loc} {cells slots : Nat}
theorem mg_stand (X : Stand p l e R s m args below meth c T locs cells slots) (cA cy : ClassId) (N K : Nat) (v : Value) : ∀ i : Nat, Stand p l e R s m args below meth c (mg_st T cA cy N K v i) locs (cells + 1 + i) (slots + N + i * K)
  | 0 => by
    have h := X.pushed { cls := cA, slots := Array.replicate N .null, vm := .none }
    rw [mg_zero T cA cy N K v] at h
    simpa using h
  | i + 1 => by
    have h1 := (mg_stand X cA cy N K v i).pushed (mg_row cy K v)
    have hc : ((mg_st T cA cy N K v i).pushCell (mg_row cy K v)).heap[T.heap.size]? = some (mg_out cA N T.heap.size i) := by
      have hl : T.heap.size < (mg_st T cA cy N K v i).heap.size := by rw [mg_size]; omega
      rw [State.heap_pushCell_of_lt (h := hl)]
      exact mg_top T cA cy N K v i
    have h2 := h1.stored hc i (.ref (T.heap.size + 1 + i))
    rw [mg_succ] at h2
    have h3 := h2.forget (fun y hy => by
      rw [List.mem_singleton.mp hy]
      exact X.same.2.1)
    have hs : (mg_row cy K v).slots.size = K := Array.size_replicate
    rw [hs] at h3
    rw [Nat.succ_mul, ← Nat.add_assoc (slots + N)]
    exact h3
end MGS
section MGW
variable {E : CtlPost} {e : Env} {d : Bool} {acts : List Action} {s : State}
/-- a new array, within all limits -/
theorem mg_new {c comp : ClassId} {k : Class} {ty : FieldType} {n : Nat} {v : Value} {Q : Addr → Pre} (hk : s.vm.classes[c]? = some k) (hkind : k.kind = .array comp ty) (h1 : ¬ n > e.platform.arrayLengthLimit) (h2 : ¬ n * componentBytes ty > e.platform.maxHeapBytes)
    (h3 : s.heap.size < e.platform.maxCells) (h4 : s.slotsUsed + n ≤ e.platform.maxSlots) (hf : fits ty v = true) (hq : ∀ acts', Q s.heap.size d acts' (s.pushCell { cls := c, slots := Array.replicate n v, vm := .none })) : wp (newArray c n v) Q E e d acts s := by
  have h5 : ¬ n > e.platform.maxSlots := by omega
  have hfit : ∀ i w, (Array.replicate n v)[i]? = some w → s.fitsSlot c .none i w = true := by
    intro i w hw
    rw [Array.getElem?_replicate] at hw
    split at hw
    · cases hw
      simp [State.fitsSlot, State.slotType?, hk, hkind, hf]
    · cases hw
  simp [newArray, arrayFits, hk, hkind, h1, h2, h5]
  exact ⟨by omega, by omega, hfit, hq _⟩
/-- the rows inside: one dimension -/
theorem mg_make1 {c comp : ClassId} {k : Class} {ty : FieldType} {n : Int32} {Q : Addr → Pre} (hn : ¬ n < 0) (hk : s.vm.classes[c]? = some k) (hkind : k.kind = .array comp ty) (h1 : ¬ n.toNatClampNeg > e.platform.arrayLengthLimit) (h2 : ¬ n.toNatClampNeg * componentBytes ty > e.platform.maxHeapBytes)
    (h3 : s.heap.size < e.platform.maxCells) (h4 : s.slotsUsed + n.toNatClampNeg ≤ e.platform.maxSlots) (hf : fits ty (defaultValue ty) = true) (hq : ∀ acts', Q s.heap.size d acts' (s.pushCell (mg_row c n.toNatClampNeg (defaultValue ty)))) : wp (multianewarray.make c [n]) Q E e d acts s := by
  simp [multianewarray.make, hn, hk, hkind]
  exact mg_new hk hkind h1 h2 h3 h4 hf hq
/-- two dimensions -/
theorem mg_make2 {cA cy comp : ClassId} {kA ky : Class} {ty : FieldType} {n k : Int32} {Q : Addr → Pre} (hn : ¬ n < 0) (hk : ¬ k < 0) (hkA : s.vm.classes[cA]? = some kA) (hA : kA.kind = .array cy (.array ty)) (hky : s.vm.classes[cy]? = some ky) (hy : ky.kind = .array comp ty)
    (h1 : ¬ n.toNatClampNeg > e.platform.arrayLengthLimit) (h2 : ¬ n.toNatClampNeg * componentBytes (.array ty) > e.platform.maxHeapBytes) (g1 : ¬ k.toNatClampNeg > e.platform.arrayLengthLimit) (g2 : ¬ k.toNatClampNeg * componentBytes ty > e.platform.maxHeapBytes)
    (h3 : s.heap.size + (1 + n.toNatClampNeg) ≤ e.platform.maxCells) (h4 : s.slotsUsed + (n.toNatClampNeg + n.toNatClampNeg * k.toNatClampNeg) ≤ e.platform.maxSlots) (hf : fits ty (defaultValue ty) = true)
    (hq : ∀ d' acts', Q s.heap.size d' acts' (mg_st s cA cy n.toNatClampNeg k.toNatClampNeg (defaultValue ty) n.toNatClampNeg)) : wp (multianewarray.make cA [n, k]) Q E e d acts s := by
  simp only [multianewarray.make, wp_bind']
  simp [hn, hk, hkA, hA]
  refine mg_new hkA hA h1 h2 (by omega) (by omega) rfl (fun acts' => ?_)
  rw [mg_zero s cA cy n.toNatClampNeg k.toNatClampNeg (defaultValue ty)]
  rw [wp_map]
  refine wp_forIn_inv (fun rest u => ∃ i, i ≤ n.toNatClampNeg ∧ rest = List.range' i (n.toNatClampNeg - i) ∧ u = mg_st s cA cy n.toNatClampNeg k.toNatClampNeg (defaultValue ty) i) _ _ ⟨0, Nat.zero_le _, rfl, rfl⟩ ?_ ?_
  · intro x rest u d1 acts1 Q1 hI hQ1
    obtain ⟨i, hi, hr, rfl⟩ := hI
    have hlt : i < n.toNatClampNeg := by
      by_cases h : i < n.toNatClampNeg
      · exact h
      · rw [show n.toNatClampNeg - i = 0 by omega] at hr
        cases hr
    rw [show n.toNatClampNeg - i = (n.toNatClampNeg - (i + 1)) + 1 by omega, List.range'_succ] at hr
    injection hr with hx hrest
    subst hx
    have hmul : (x + 1) * k.toNatClampNeg ≤ n.toNatClampNeg * k.toNatClampNeg := Nat.mul_le_mul_right _ hlt
    rw [Nat.succ_mul] at hmul
    have hky' : (mg_st s cA cy n.toNatClampNeg k.toNatClampNeg (defaultValue ty) x).vm.classes[cy]? = some ky := hky
    have hkA' : (mg_st s cA cy n.toNatClampNeg k.toNatClampNeg (defaultValue ty) x).vm.classes[cA]? = some kA := hkA
    simp only [wp_bind', Jvm.W.theClass]
    refine ⟨ky, hky', ?_⟩
    rw [hy]
    refine mg_new hky' hy g1 g2 (by rw [mg_size]; omega) (by show s.slotsUsed + n.toNatClampNeg + x * k.toNatClampNeg + k.toNatClampNeg ≤ _; omega) hf (fun acts2 => ?_)
    rw [wp_map, mg_size]
    have hl : s.heap.size < (mg_st s cA cy n.toNatClampNeg k.toNatClampNeg (defaultValue ty) x).heap.size := by rw [mg_size]; omega
    refine ⟨mg_out cA n.toNatClampNeg s.heap.size x, ?_, ?_, ?_, ?_, ?_⟩
    · rw [State.heap_pushCell_of_lt (h := hl)]
      exact mg_top _ _ _ _ _ _ _
    · intro h
      cases h
    · rw [show (mg_out cA n.toNatClampNeg s.heap.size x).slots.size = n.toNatClampNeg from arrV_size _ _ _]
      exact hlt
    · show State.fitsSlot ((mg_st s cA cy n.toNatClampNeg k.toNatClampNeg (defaultValue ty) x).pushCell _) cA .none x _ = true
      simp [State.fitsSlot, State.slotType?, hkA', hA, fits]
    · exact hQ1 _ _ _ ⟨x + 1, hlt, hrest, mg_succ s cA cy n.toNatClampNeg k.toNatClampNeg (defaultValue ty) x⟩
  · intro u d1 acts1 hI
    obtain ⟨i, hi, hr, rfl⟩ := hI
    have he : i = n.toNatClampNeg := by
      have h := congrArg List.length hr
      rw [List.length_range', List.length_nil] at h
      omega
    rw [he]
    exact hq _ _
end MGW
section MGI
variable {p : Program} {l : Launch} {e : Env} {R : Room} {s : State} {m : MethodId} {args : Array Value} {below : List Frame} {meth : Method} {c : Code} {T : State} {locs : List Loc} {cells slots : Nat}
/-- the instruction, its class entry being ready -/
theorem mg_sem {E : CtlPost} {d : Bool} {acts : List Action} {f : JFrame} {index : Nat} {cA cy comp : ClassId} {kA ky : Class} {ty : FieldType} {n k : Int32} {rest : List Value} {Q : Unit → Pre} (hs : T.topJava?.isSome) (hr : T.vm.classReady f.method.cls index cA) (hstack : f.stack = .int k :: .int n :: rest)
    (hn : ¬ n < 0) (hk : ¬ k < 0) (hkA : T.vm.classes[cA]? = some kA) (hA : kA.kind = .array cy (.array ty)) (hky : T.vm.classes[cy]? = some ky) (hy : ky.kind = .array comp ty)
    (h1 : ¬ n.toNatClampNeg > e.platform.arrayLengthLimit) (h2 : ¬ n.toNatClampNeg * componentBytes (.array ty) > e.platform.maxHeapBytes) (g1 : ¬ k.toNatClampNeg > e.platform.arrayLengthLimit) (g2 : ¬ k.toNatClampNeg * componentBytes ty > e.platform.maxHeapBytes)
    (h3 : T.heap.size + (1 + n.toNatClampNeg) ≤ e.platform.maxCells) (h4 : T.slotsUsed + (n.toNatClampNeg + n.toNatClampNeg * k.toNatClampNeg) ≤ e.platform.maxSlots) (hf : fits ty (defaultValue ty) = true)
    (hq : ∀ d' acts', Q () d' acts' ((mg_st T cA cy n.toNatClampNeg k.toNatClampNeg (defaultValue ty) n.toNatClampNeg).setTop { f with stack := .ref T.heap.size :: rest })) : wp (multianewarray.sem index 2) Q E e d acts (T.setTop f) := by
  simp [multianewarray.sem, Jvm.W.resolveClassAt_ready (State.method?_setTop f hs) hr, popN, hs, hstack]
  refine mg_make2 (s := T.setTop { f with stack := rest }) hn hk hkA hA hky hy h1 h2 g1 g2 h3 h4 hf (fun d' acts' => ?_)
  have hc : mg_st (T.setTop { f with stack := rest }) cA cy n.toNatClampNeg k.toNatClampNeg (defaultValue ty) n.toNatClampNeg = (mg_st T cA cy n.toNatClampNeg k.toNatClampNeg (defaultValue ty) n.toNatClampNeg).setTop { f with stack := rest } := rfl
  have hs' : (mg_st T cA cy n.toNatClampNeg k.toNatClampNeg (defaultValue ty) n.toNatClampNeg).topJava?.isSome := hs
  rw [hc]
  refine ⟨{ f with stack := rest }, State.topJava?_setTop' _ hs', ?_⟩
  rw [State.setTop_setTop]
  exact hq _ _
/-- its class entry, at its first use -/
theorem mg_cold {E : CtlPost} {d : Bool} {acts : List Action} {f : JFrame} {index cA : Nat} {vm' : Vm} {Q : Unit → Pre} (hs : T.topJava?.isSome) (hg : (Jvm.resolveClass f.method.cls index).Gives e.toSetting T.vm (.ok cA) vm') (hr : vm'.classReady f.method.cls index cA) (hsz : vm'.classes.size ≤ T.vm.classes.size) :
    wp (multianewarray.sem index 2) Q E e d acts (T.setTop f) ↔ wp (multianewarray.sem index 2) Q E e d acts ((T.setVm vm').setTop f) := by
  simp only [multianewarray.sem, wp_bind']
  exact Jvm.W.resolveClassAt_transfer (s := T.setTop f) (State.method?_setTop f hs) hg hr hsz
/-- 'multianewarray' of two dimensions, as the walk takes it -/
theorem mg_multi (X : Stand p l e R s m args below meth c T locs cells slots) (hexec : p.tables.exec = Jvm.exec) {own : String} {index : Nat} {ty : FieldType} (hown : s.vm.findClass own = some m.cls) (hclink : (Cond.classLink own index ("[" ++ (FieldType.array ty).toString)).before args s = true)
    (hover : (Cond.arrayOver (.array ty)).before args s = true) (harr : (Cond.arrayClass ty).before args s = true) {g : JFrame} (hg : g.method = m) (hdg : decode c.code g.pc = .ok (.multianewarray index 2, 4)) {n k : Int32} {rest : List Value} (hstack : g.stack = .int k :: .int n :: rest)
    (hn : ¬ n < 0) (hk : ¬ k < 0) (hb1 : n.toNatClampNeg * 4 ≤ 536870912) (hb2 : k.toNatClampNeg * componentBytes ty ≤ 536870912) (hb3 : k.toNatClampNeg ≤ 536870912) (hf : fits ty (defaultValue ty) = true)
    (hcells : cells + (1 + n.toNatClampNeg) ≤ R.cells) (hslots : slots + (n.toNatClampNeg + n.toNatClampNeg * k.toNatClampNeg) ≤ R.slots) :
    ∃ (vm₁ : Vm) (cA cy : ClassId), s.vm.findClass ("[" ++ (FieldType.array ty).toString) = some cA ∧ s.vm.findClass (FieldType.array ty).toString = some cy ∧ ArrOfT s cA (.array ty) ∧
      Stand p l e R s m args below meth c (mg_st (T.setVm vm₁) cA cy n.toNatClampNeg k.toNatClampNeg (defaultValue ty) n.toNatClampNeg) locs (cells + 1 + n.toNatClampNeg) (slots + n.toNatClampNeg + n.toNatClampNeg * k.toNatClampNeg) ∧
      ∀ target, Steps p.tables e below ((mg_st (T.setVm vm₁) cA cy n.toNatClampNeg k.toNatClampNeg (defaultValue ty) n.toNatClampNeg).setTop { g with pc := g.pc + 4, stack := .ref T.heap.size :: rest }) target → Steps p.tables e below (T.setTop g) target := by
  subst hg
  have hpl : e.platform.magicAccessors = ({} : Platform).magicAccessors := by rw [X.admits.platform]
  obtain ⟨cy, cA, kA, hcy, -, hkA, hkindA, hnameA⟩ := arrayOverA_spec hover
  obtain ⟨cy', ky, comp, hcy', hky, hkindy⟩ := Cond.arrayClass_spec harr
  have hyy : some cy = some cy' := hcy.symm.trans hcy'
  cases hyy
  obtain ⟨cA', hcA', hcl⟩ := Cond.classLink_spec hown hclink e.platform hpl
  cases hnameA.symm.trans hcA'
  obtain ⟨hg₁, hwarm₁, hready₁⟩ := State.classEntry (e := e) X.warmed hcl
  generalize T.vm.noted g.method.cls index (.cls cA) = vm₁ at hg₁ hwarm₁ hready₁
  have hal : s.vm.Alike vm₁ := hwarm₁.alike
  obtain ⟨kA₁, hkA₁, heA⟩ := hal.2.2 _ _ hkA
  obtain ⟨ky₁, hky₁, hey⟩ := hal.2.2 _ _ hky
  have hkindA₁ : kA₁.kind = .array cy (.array ty) := by rw [heA]; exact hkindA
  have hkindy₁ : ky₁.kind = .array comp ty := by rw [hey]; exact hkindy
  have h1 : ¬ n.toNatClampNeg > e.platform.arrayLengthLimit := by rw [Launch.admits_arrayLengthLimit X.admits]; omega
  have h2 : ¬ n.toNatClampNeg * componentBytes (.array ty) > e.platform.maxHeapBytes := by
    rw [Launch.admits_maxHeapBytes X.admits]; show ¬ n.toNatClampNeg * 4 > 536870912; omega
  have g1 : ¬ k.toNatClampNeg > e.platform.arrayLengthLimit := by rw [Launch.admits_arrayLengthLimit X.admits]; omega
  have g2 : ¬ k.toNatClampNeg * componentBytes ty > e.platform.maxHeapBytes := by rw [Launch.admits_maxHeapBytes X.admits]; omega
  obtain ⟨hr1, hr2⟩ := X.roomAbove hcells hslots
  refine ⟨vm₁, cA, cy, hnameA, hcy, fun n9 z9 => ⟨(fun q hq => by cases hq), kA, hkA, cy, hkindA⟩, mg_stand (X.noted hwarm₁) cA cy _ _ _ _, fun target hrest => ?_⟩
  refine Steps.instr (c := _) (by simpa using X.here) ?_
  simp [jvm, wpRun, exec, X.here.top, hexec, hdg]
  refine (mg_cold (f := g) X.here.top hg₁ hready₁ (by no_record)).mpr ?_
  refine mg_sem (T := T.setVm vm₁) (f := g) X.here.top hready₁ hstack hn hk hkA₁ hkindA₁ hky₁ hkindy₁ h1 h2 g1 g2 hr1 hr2 hf (fun d' acts' acts'' => ?_)
  rw [afterInstr_ok]
  exact hrest
end MGI
end
section
/-! ===== making cells: constructors ===== -/
def va_AOA (ty : FieldType) (U : State) : Prop := (Cond.arrayOver (.array ty)).before #[] U = true
theorem va_AOA.use {ty : FieldType} {A : Array Value} {U : State} (h : va_AOA ty U) : (Cond.arrayOver (.array ty)).before A U = true := h
/-! ===== BEGIN new T[n][m]: the outer array a place, the inner ones among the pooled ===== -/
/-- f, but v at every address of l -/
def vr_up {α : Type} (f : Nat → α) (l : List Nat) (v : α) : Nat → α := fun a => if a ∈ l then v else f a
theorem vr_up_in {α : Type} {f : Nat → α} {l : List Nat} {v : α} {a : Nat} (h : a ∈ l) : vr_up f l v a = v := if_pos h
theorem vr_up_ne {α : Type} {f : Nat → α} {l : List Nat} {v : α} {a : Nat} (h : a ∉ l) : vr_up f l v a = f a := if_neg h
theorem vr_rows {L l : List Nat} {f : Nat → va_E} {e : va_E} (h : ∀ a, a ∈ l → a ∉ L) : va_pl L f ++ l.map (fun a => (a, e)) = va_pl (L ++ l) (vr_up f l e) := by
  unfold va_pl
  rw [List.map_append]
  congr 1
  · apply List.map_congr_left
    intro a ha
    rw [vr_up_ne (fun q => h a q ha)]
  · apply List.map_congr_left
    intro a ha
    rw [vr_up_in ha]
theorem vr_lay {X rows : va_W} {x : Nat × va_E} {pl : va_W} {D : va_G} {cl : List vw_C} {H : Heap} (hP : va_P D cl (((X ++ pl) ++ [x]) ++ rows) H) : va_P D cl ((X ++ [x]) ++ (pl ++ rows)) H := by
  rw [List.append_assoc (X ++ pl)] at hP
  have h := va_P.swap hP
  rw [← List.append_assoc X] at h
  have h2 := va_P.swap h
  rw [List.append_assoc (X ++ [x])] at h2
  exact h2
theorem vr_layD {X rows : va_W} {x : Nat × va_E} {pl : va_W} {A : Nat → Prop} (hD : va_D A (((X ++ pl) ++ [x]) ++ rows)) : va_D A ((X ++ [x]) ++ (pl ++ rows)) := by
  rw [List.append_assoc (X ++ pl)] at hD
  have h := va_D.swap hD
  rw [← List.append_assoc X] at h
  have h2 := va_D.swap h
  rw [List.append_assoc (X ++ [x])] at h2
  exact h2
section VGM
variable {p : Program} {l : Launch} {e : Env} {R : Room} {s : State} {m : MethodId} {args : Array Value} {below : List Frame} {meth : Method} {c : Code} {H : Heap} {locs : List Loc} {cells slots : Nat} {Q : State → Prop}
variable {cc : ByteArray} {pc : Nat} {ls : Array Slot} {rest : List Value} {D : va_G} {cl : List vw_C} {A : Nat → Prop} {a : Nat} {tys : List (ClassId × FieldType)} {ws : va_W} {H0 : Heap}
theorem va_mna {X : va_W} {L : List Nat} {f : Nat → va_E} {cc : ByteArray} (hexec : p.tables.exec = Jvm.exec) (hb : c.code = cc) {own : String} {index : Nat} {ty : FieldType} {cy : ClassId} (hown : s.vm.findClass own = some m.cls) (hclink : (Cond.classLink own index ("[" ++ (FieldType.array ty).toString)).before args s = true) (hover : va_AOA ty s) (harr : (Cond.arrayClass ty).before args s = true) (hcy : s.vm.findClass (FieldType.array ty).toString = some cy)
    (hK : va_K D cl tys s) (hP : va_P D cl (X ++ va_pl L f) H) (hD : va_D A (X ++ va_pl L f)) (hS : va_S A H0 H locs) (hA : ∀ q, H0.size ≤ q → A q) {n k : Int32} {N' K' : Nat} {z : vp_A} (hn : ¬ n < 0) (hk : ¬ k < 0) (hN : n.toNatClampNeg = N') (hM : k.toNatClampNeg = K')
    (hb1 : N' * 4 ≤ 536870912) (hb2 : K' * componentBytes ty ≤ 536870912) (hb3 : K' ≤ 536870912) (hdf : fits ty (defaultValue ty) = true) (hdd : (defaultValue ty).isDefault = true) (hcells : cells + (1 + N') ≤ R.cells) (hslots : slots + (N' + N' * K') ≤ R.slots) (hz : ∀ c : ClassId, mg_row c K' (defaultValue ty) = vp_cell c z) (hdg : decode cc pc = .ok (.multianewarray index 2, 4))
    (kk : ∀ (q : Nat) (r : Nat → Nat) (cA : ClassId) (H1 : Heap), (∀ i j : Nat, i < N' → j < N' → r i = r j → i = j) → (∀ i : Nat, i < N' → r i ∉ L) → va_K D cl (tys ++ [(cA, .array ty)]) s →
      va_P D cl ((X ++ [(q, .inl (cA, N', .inr (.inr (.inr (.inr (fun i => if i < N' then some (r i) else none))))))]) ++ va_pl (L ++ (List.range N').map r) (vr_up f ((List.range N').map r) (.inl (cy, z)))) H1 → va_D A ((X ++ [(q, .inl (cA, N', .inr (.inr (.inr (.inr (fun i => if i < N' then some (r i) else none))))))]) ++ va_pl (L ++ (List.range N').map r) (vr_up f ((List.range N').map r) (.inl (cy, z)))) → va_S A H0 H1 locs →
      W p l e R s m args below meth c H1 locs (cells + 1 + N') (slots + N' + N' * K') Q (F0 m (pc + 4) ls (.ref q :: rest))) : W p l e R s m args below meth c H locs cells slots Q (F0 m pc ls (.int k :: .int n :: rest)) := by
  subst hN
  subst hM
  intro T hT Xs
  obtain ⟨vm₁, cA, comp, fA, fC, hAr, X', step⟩ := mg_multi Xs hexec hown hclink (va_AOA.use hover) harr (g := F0 m pc ls (.int k :: .int n :: rest)) rfl (by rw [hb]; exact hdg) rfl hn hk hb1 hb2 hb3 hdf hcells hslots
  have ec : some cy = some comp := hcy.symm.trans fC
  cases ec
  generalize hF : mg_st (T.setVm vm₁) cA cy n.toNatClampNeg k.toNatClampNeg (defaultValue ty) n.toNatClampNeg = F at X' step
  have hTh : (T.setVm vm₁).heap = H := hT
  have f1 := mg_size (T.setVm vm₁) cA cy n.toNatClampNeg k.toNatClampNeg (defaultValue ty) n.toNatClampNeg
  have f2 := mg_top (T.setVm vm₁) cA cy n.toNatClampNeg k.toNatClampNeg (defaultValue ty) n.toNatClampNeg
  rw [hF, hTh] at f1 f2
  have hold : ∀ x : Nat, x < H.size → F.heap[x]? = H[x]? := fun x hx => by
    have := mg_old (T.setVm vm₁) cA cy n.toNatClampNeg k.toNatClampNeg (defaultValue ty) n.toNatClampNeg (a := x) (by rw [hTh]; exact hx)
    rw [hF, hTh] at this
    exact this
  have hrow : ∀ j : Nat, j < n.toNatClampNeg → F.heap[H.size + 1 + j]? = some (vp_cell cy z) := fun j hj => by
    have := mg_in (T.setVm vm₁) cA cy n.toNatClampNeg k.toNatClampNeg (defaultValue ty) n.toNatClampNeg hj
    rw [hF, hTh, hz] at this
    exact this
  have hout : mg_out cA n.toNatClampNeg H.size n.toNatClampNeg = vp_cell cA (n.toNatClampNeg, .inr (.inr (.inr (.inr (fun i => if i < n.toNatClampNeg then some (H.size + 1 + i) else none))))) := by
    rw [vp_cell_q]
    rfl
  rw [hout] at f2
  have hlt : ∀ a, a ∈ L → a < H.size := fun a ha => by
    obtain ⟨k9, hk9⟩ := va_pl_get (X := X) (f := f) ha
    exact (hP k9 _ hk9).lt
  have hnl : ∀ i : Nat, i < n.toNatClampNeg → H.size + 1 + i ∉ L := fun i _ h => by
    have := hlt _ h
    omega
  have hnm : ∀ a, a ∈ (List.range n.toNatClampNeg).map (fun i => H.size + 1 + i) → a ∉ L := fun a ha h => by
    obtain ⟨i, -, rfl⟩ := List.mem_map.mp ha
    have := hlt _ h
    omega
  have hP0 : va_P D cl (X ++ va_pl L f) F.heap := hP.kept (fun k9 x hx => hold x.1 ((hP k9 x hx).lt))
  have hP1 : va_P D cl ((X ++ va_pl L f) ++ [(H.size, .inl (cA, n.toNatClampNeg, .inr (.inr (.inr (.inr (fun i => if i < n.toNatClampNeg then some (H.size + 1 + i) else none))))))]) F.heap := hP0.app (fun k9 x hx => by
    have h0 : k9 < 1 := (List.getElem?_eq_some_iff.mp hx).1
    rw [show k9 = 0 by omega] at hx
    cases hx
    exact f2)
  have hP2 : va_P D cl (((X ++ va_pl L f) ++ [(H.size, .inl (cA, n.toNatClampNeg, .inr (.inr (.inr (.inr (fun i => if i < n.toNatClampNeg then some (H.size + 1 + i) else none))))))]) ++ ((List.range n.toNatClampNeg).map (fun i => H.size + 1 + i)).map (fun a => (a, .inl (cy, z)))) F.heap := hP1.app (fun k9 x hx => by
    obtain ⟨a, ha, rfl⟩ := List.mem_map.mp (List.mem_of_getElem? hx)
    obtain ⟨i, hi, rfl⟩ := List.mem_map.mp ha
    exact hrow i (List.mem_range.mp hi))
  have hD2 : va_D A (((X ++ va_pl L f) ++ [(H.size, .inl (cA, n.toNatClampNeg, .inr (.inr (.inr (.inr (fun i => if i < n.toNatClampNeg then some (H.size + 1 + i) else none))))))]) ++ ((List.range n.toNatClampNeg).map (fun i => H.size + 1 + i)).map (fun a => (a, .inl (cy, z)))) := by
    have hD1 := hD.push (e := .inl (cA, n.toNatClampNeg, .inr (.inr (.inr (.inr (fun i => if i < n.toNatClampNeg then some (H.size + 1 + i) else none)))))) hP rfl (hA _ hS.1)
    generalize hW1 : (X ++ va_pl L f) ++ [(H.size, .inl (cA, n.toNatClampNeg, .inr (.inr (.inr (.inr (fun i => if i < n.toNatClampNeg then some (H.size + 1 + i) else none))))))] = W1 at hD1 hP1 ⊢
    have hle : ∀ (k9 : Nat) (x : Nat × va_E), W1[k9]? = some x → x.1 ≤ H.size := fun k9 x hx => by
      rw [← hW1] at hx
      by_cases hl : k9 < (X ++ va_pl L f).length
      · rw [List.getElem?_append_left hl] at hx
        exact Nat.le_of_lt ((hP k9 x hx).lt)
      · rw [List.getElem?_append_right (by omega)] at hx
        have h0 : k9 - (X ++ va_pl L f).length < 1 := (List.getElem?_eq_some_iff.mp hx).1
        rw [show k9 - (X ++ va_pl L f).length = 0 by omega] at hx
        cases hx
        exact Nat.le_refl _
    have hr : ∀ (k9 : Nat) (x : Nat × va_E), (((List.range n.toNatClampNeg).map (fun i => H.size + 1 + i)).map (fun a => ((a, .inl (cy, z)) : Nat × va_E)))[k9]? = some x → x.1 = H.size + 1 + k9 := fun k9 x hx => by
      rw [List.getElem?_map, List.getElem?_map] at hx
      by_cases h9 : k9 < n.toNatClampNeg
      · rw [List.getElem?_range h9] at hx
        cases hx
        rfl
      · have hn0 : (List.range n.toNatClampNeg)[k9]? = none := List.getElem?_eq_none (by rw [List.length_range]; omega)
        rw [hn0] at hx
        cases hx
    refine ⟨fun i j x y hi hj hxy => ?_, fun k9 x hx => ?_⟩
    · by_cases h1 : i < W1.length <;> by_cases h2 : j < W1.length
      · rw [List.getElem?_append_left h1] at hi
        rw [List.getElem?_append_left h2] at hj
        exact hD1.1 i j x y hi hj hxy
      · rw [List.getElem?_append_left h1] at hi
        rw [List.getElem?_append_right (by omega)] at hj
        have := hle _ _ hi
        have := hr _ _ hj
        omega
      · rw [List.getElem?_append_right (by omega)] at hi
        rw [List.getElem?_append_left h2] at hj
        have := hle _ _ hj
        have := hr _ _ hi
        omega
      · rw [List.getElem?_append_right (by omega)] at hi hj
        have := hr _ _ hi
        have := hr _ _ hj
        omega
    · by_cases h1 : k9 < W1.length
      · rw [List.getElem?_append_left h1] at hx
        exact hD1.2 k9 x hx
      · rw [List.getElem?_append_right (by omega)] at hx
        have := hr _ _ hx
        exact hA _ (by have := hS.1; omega)
  have hK2 : va_K D cl (tys ++ [(cA, .array ty)]) s := ⟨hK.1, fun k9 x hx => by
    by_cases hl : k9 < tys.length
    · rw [List.getElem?_append_left hl] at hx
      exact hK.2 k9 x hx
    · rw [List.getElem?_append_right (by omega)] at hx
      have h0 : k9 - tys.length < 1 := (List.getElem?_eq_some_iff.mp hx).1
      rw [show k9 - tys.length = 0 by omega] at hx
      cases hx
      exact ⟨hAr, fA⟩⟩
  obtain ⟨t, a1, b1⟩ := kk H.size (fun i => H.size + 1 + i) cA F.heap (fun i j _ _ h => by have h9 : H.size + 1 + i = H.size + 1 + j := h; omega) hnl hK2 (by rw [← vr_rows hnm]; exact vr_lay hP2) (by rw [← vr_rows hnm]; exact vr_layD hD2) ⟨by rw [f1]; have := hS.1; omega, fun x h1 h2 => (hold x (Nat.lt_of_lt_of_le h1 hS.1)).trans (hS.2.1 x h1 h2), hS.2.2⟩ F rfl X'
  refine ⟨t, step t ?_, b1⟩
  have e : T.heap.size = H.size := by rw [hT]
  rw [e]
  exact a1
end VGM
abbrev sc_t : Type := (Nat → Nat → Int32) × (Nat → Nat → Int64) × (Nat → Nat → Option Nat)
def sc_wf (n : Nat) (T : sc_t) : Prop := ∀ a i b : Nat, T.2.2 a i = some b → b < n
def sc_ov (n : Nat) (v : Value) : Bool := match v with
  | .ref a => decide (a < n)
  | _ => true
def sc_ol (n : Nat) (o : Option Value) : Bool := match o with
  | some v => sc_ov n v
  | none => true
def sc_ok (n : Nat) (lf : List (Option Value)) (st : List Value) : Bool := lf.all (sc_ol n) && st.all (sc_ov n)
def sc_g (g : sm_G) (n m : Nat) (ads : Nat → Nat) : sm_G := (fun i => if n ≤ i ∧ i < n + m then ads (i - n) else g.1 i, g.2)
theorem sc_g_lt (g : sm_G) {n m i : Nat} (ads : Nat → Nat) (h : i < n) : (sc_g g n m ads).1 i = g.1 i := if_neg (by omega)
theorem sc_g_in (g : sm_G) {n m i : Nat} (ads : Nat → Nat) (h : i < m) : (sc_g g n m ads).1 (n + i) = ads i := by
  show (if n ≤ n + i ∧ n + i < n + m then ads (n + i - n) else _) = _
  rw [if_pos (by omega), Nat.add_sub_cancel_left]
theorem sc_ce {g g' : sm_G} {s s' : sm_Sh} {T T' : sc_t} {n b : Nat} (hg : g'.2 = g.2) (hi : ∀ i, i < n → g'.1 i = g.1 i) (hw : sc_wf n T) (h1 : T'.1 b = T.1 b) (h2 : T'.2.1 b = T.2.1 b) (h3 : T'.2.2 b = T.2.2 b) (x : (FieldType × Nat) ⊕ Nat) : sm_ce g' (s', T') b x = sm_ce g (s, T) b x := by
  have hr : ∀ i, (T.2.2 b i).map g'.1 = (T.2.2 b i).map g.1 := fun i => by
    cases e : T.2.2 b i with
    | none => rfl
    | some c => simp only [Option.map_some]; rw [hi c (hw _ _ _ e)]
  cases x with
  | inl q =>
    simp only [sm_ce, sm_ar, h1, h2, h3, hg]
    congr 2
    split
    · rfl
    · rfl
    · congr 5
      exact funext hr
  | inr ci =>
    have e : sm_fv g' (s', T') b ci = sm_fv g (s, T) b ci := funext fun i => by
      simp only [sm_fv, h1, h2, h3]
      rw [hr i]
    simp only [sm_ce, e]
theorem sm_w_len (g : sm_G) (M : sm_M) : (sm_w g M).length = M.1.length - 3 := by simp [sm_w]
theorem sc_w {g : sm_G} {s xs : sm_Sh} {T T' : sc_t} {ads : Nat → Nat} (h3 : 3 ≤ s.length) (hw : sc_wf s.length T) (ho : ∀ b, b < s.length → T'.1 b = T.1 b ∧ T'.2.1 b = T.2.1 b ∧ T'.2.2 b = T.2.2 b) : sm_w (sc_g g s.length xs.length ads) (s ++ xs, T') = sm_w g (s, T) ++ xs.zipIdx.map (fun q => (ads q.2, sm_ce (sc_g g s.length xs.length ads) (s ++ xs, T') (s.length + q.2) q.1)) := by
  apply List.ext_getElem?
  intro j
  rw [sm_w_get]
  by_cases hj : j + 3 < s.length
  · rw [List.getElem?_append_left hj, List.getElem?_append_left (by rw [sm_w_len]; show j < s.length - 3; omega), sm_w_get]
    show (s[j + 3]?).map _ = (s[j + 3]?).map _
    obtain ⟨o1, o2, o3⟩ := ho _ hj
    cases s[j + 3]? with
    | none => rfl
    | some y =>
      simp only [Option.map_some]
      rw [sc_g_lt g ads hj, sc_ce (g := g) (g' := sc_g g s.length xs.length ads) (s := s) (s' := s ++ xs) (T' := T') rfl (fun i hi => sc_g_lt g ads hi) hw o1 o2 o3]
  · rw [List.getElem?_append_right (by omega), List.getElem?_append_right (by rw [sm_w_len]; show s.length - 3 ≤ j; omega), sm_w_len, List.getElem?_map, List.getElem?_zipIdx]
    show Option.map _ (xs[j + 3 - s.length]?) = Option.map _ (Option.map _ (xs[j - (s.length - 3)]?))
    rw [show j + 3 - s.length = j - (s.length - 3) by omega]
    cases hx : xs[j - (s.length - 3)]? with
    | none => rfl
    | some y =>
      simp only [Option.map_some]
      have hl : j - (s.length - 3) < xs.length := (List.getElem?_eq_some_iff.mp hx).1
      have e : j + 3 = s.length + (j - (s.length - 3)) := by omega
      rw [e, sc_g_in g ads hl]
      simp
theorem sc_C {k : sm_K} {g : sm_G} {p : Program} {R : Room} {s : State} {m : MethodId} {args : Array Value} {meth : Method} {c : Code} {n w : Nat} (ads : Nat → Nat) (h3 : 3 ≤ n) (h : sm_C k g p R s m args meth c) : sm_C k (sc_g g n w ads) p R s m args meth c := by
  obtain ⟨c1, c2, c3, c4, c5, c6, c7, c8, c9, c10, c11⟩ := h
  refine ⟨c1, c2, c3, c4, c5, c6, c7, c8, c9, ?_, c11⟩
  have e0 : (sc_g g n w ads).1 0 = g.1 0 := sc_g_lt g ads (by omega)
  have e1 : (sc_g g n w ads).1 1 = g.1 1 := sc_g_lt g ads (by omega)
  have e2 : (sc_g g n w ads).1 2 = g.1 2 := sc_g_lt g ads (by omega)
  unfold sm_X
  rw [e0, e1, e2]
  exact c10
theorem sc_ext {k : sm_K} {g0 g : sm_G} {n0 n w : Nat} (ads : Nat → Nat) (hk : k.2.2.2.2.2.1 ≠ 0) (hn : n0 ≤ n) (h : sm_ext k n0 g0 g) : sm_ext k n0 g0 (sc_g g n w ads) := ⟨fun i hi => (sc_g_lt g ads (by omega)).trans (h.1 i hi), h.2.1, fun z => absurd z hk⟩
theorem sc_tv (g : sm_G) {n w : Nat} (ads : Nat → Nat) {v : Value} (h : sc_ov n v = true) : sm_tv (sc_g g n w ads) v = sm_tv g v := by
  cases v with
  | ref a =>
    have ha : a < n := by simpa [sc_ov] using h
    show Value.ref _ = Value.ref _
    rw [sc_g_lt g ads ha]
  | _ => rfl
theorem sc_st (g : sm_G) {n w : Nat} (ads : Nat → Nat) {st : List Value} (h : st.all (sc_ov n) = true) : st.map (sm_tv (sc_g g n w ads)) = st.map (sm_tv g) := List.map_congr_left fun v hv => sc_tv g ads (List.all_eq_true.mp h v hv)
theorem sc_L {g : sm_G} {n w q : Nat} (ads : Nat → Nat) {lf : List (Option Value)} {ls : Array Slot} (h : lf.all (sc_ol n) = true) (hL : sm_L g q lf ls) : sm_L (sc_g g n w ads) q lf ls := ⟨hL.1, hL.2.1, fun i v hv => by
  have h1 := List.all_eq_true.mp h _ (List.mem_of_getElem? hv)
  rw [sc_tv g ads h1]
  exact hL.2.2 i v hv⟩
theorem sc_E {g : sm_G} {s xs : sm_Sh} {T T' : sc_t} {ads : Nat → Nat} (h3 : 3 ≤ s.length) (ho : ∀ b, b < s.length → T'.1 b = T.1 b) (h : sm_E g (s, T)) : sm_E (sc_g g s.length xs.length ads) (s ++ xs, T') := by
  obtain ⟨e1, e2, e3, e4, e5, e6⟩ := h
  refine ⟨?_, ?_, ?_, (ho 0 (by omega)).trans e4, (ho 1 (by omega)).trans e5, (ho 2 (by omega)).trans e6⟩
  · show (s ++ xs)[0]? = _
    rw [List.getElem?_append_left (by omega)]; exact e1
  · show (s ++ xs)[1]? = _
    rw [List.getElem?_append_left (by omega)]; exact e2
  · show (s ++ xs)[2]? = _
    rw [List.getElem?_append_left (by omega)]; exact e3
/-- a new cell's contents -/
def sc_z (T : sc_t) (a : Nat) : sc_t := (va_up T.1 a (fun _ => 0), va_up T.2.1 a (fun _ => 0), va_up T.2.2 a (fun _ => none))
theorem sc_z_o (T : sc_t) {a b : Nat} (h : b < a) : (sc_z T a).1 b = T.1 b ∧ (sc_z T a).2.1 b = T.2.1 b ∧ (sc_z T a).2.2 b = T.2.2 b := ⟨sm_up_o _ _ (by omega), sm_up_o _ _ (by omega), sm_up_o _ _ (by omega)⟩
theorem sc_z_wf {T : sc_t} {n a : Nat} (h : sc_wf n T) : sc_wf (n + 1) (sc_z T a) := fun x i b hb => by
  by_cases e : x = a
  · subst e
    simp [sc_z, sm_up_s] at hb
  · have : (sc_z T a).2.2 x i = T.2.2 x i := by show va_up T.2.2 a _ x i = _; rw [sm_up_o _ _ e]
    rw [this] at hb
    exact Nat.lt_succ_of_lt (h x i b hb)
def sc_tok (ty : FieldType) : Bool := match ty with
  | .int | .boolean | .long | .object _ | .array _ | .byte => true
  | _ => false
theorem sc_df (ty : FieldType) (h : sc_tok ty = true) : defaultValue ty = match sm_kd ty with
  | 0 => .int 0
  | 1 => .long 0
  | _ => .null := by cases ty <;> first | rfl | (simp [sc_tok] at h)

section
variable {ρ ρ2 : Type} {j : ρ → Option Value × sm_M} {k k2 : sm_K} {cs sl pc : Nat} {lf : List (Option Value)} {st : List Value} {s : sm_Sh} {T : sc_t} {o : Option ρ} {K : sc_t → Option ρ}
/-- the class of an array is known by its name -/
theorem sc_cA {g : sm_G} {U : State} {D : va_G} {ty : FieldType} {cA : ClassId} {tys : List (ClassId × FieldType)} (t0 : Nat) (ht : (sm_tys g)[t0]? = some (g.2.2.2.2.2 ty, ty)) (hK : va_K D sm_cl (sm_tys g) U) (hK2 : va_K D sm_cl (tys ++ [(cA, ty)]) U) : cA = g.2.2.2.2.2 ty := by
  have h1 := (hK.2 t0 _ ht).2
  have h2 := (hK2.2 tys.length (cA, ty) (by simp)).2
  cases ty with
  | object C =>
    obtain ⟨_, _, _, _, _, a1⟩ := h1
    obtain ⟨_, _, _, _, _, a2⟩ := h2
    exact Option.some.inj (a2.symm.trans a1)
  | _ => exact Option.some.inj (h2.symm.trans h1)
theorem sc_len1 {s : sm_Sh} {x : (FieldType × Nat) ⊕ Nat} : (s ++ ([x] : sm_Sh)).length = s.length + 1 := by simp
/-- one new cell: what is common -/
theorem sc_one {x : (FieldType × Nat) ⊕ Nat} {g g0 : sm_G} {p : Program} {l : Launch} {e : Env} {R : Room} {s2 : State} {m : MethodId} {args : Array Value} {below : List Frame} {meth : Method} {c : Code} {Q : State → Prop} {r : ρ} {n cs2 sl2 pc2 q : Nat} {H1 : Heap} {locs : List Loc} {ls : Array Slot} {E : va_E} (h3 : 3 ≤ s.length) (hw : sc_wf s.length T) (hv : sc_ok s.length lf st = true) (hk : k.2.2.2.2.2.1 ≠ 0) (h : ∀ T : sc_t, sc_wf (s ++ ([x] : sm_Sh)).length T → sm_S j k cs2 sl2 pc2 lf (.ref s.length :: st) (s ++ [x], T) (K T)) (hr : sm_n (sc_z T s.length) K = some r) (hC : sm_C k g p R s2 m args meth c) (hx : sm_ext k n g0 g) (hn : n ≤ s.length) (hQ : sm_Q k n g0 p l e R s2 m args below meth c Q (j r)) (hE0 : sm_E g (s, T)) (hL : sm_L g k.2.2.1 lf ls) (hS1 : va_S (sm_A g) s2.heap H1 locs)
    (hE : sm_ce (sc_g g s.length 1 (fun _ => q)) (s ++ [x], sc_z T s.length) s.length x = E) (hP1 : va_P g.2.2.2.2.1 sm_cl (sm_w g (s, T) ++ [(q, E)]) H1) (hD1 : va_D (sm_A g) (sm_w g (s, T) ++ [(q, E)])) : W p l e R s2 m args below meth c H1 locs cs2 sl2 Q (F0 m pc2 ls (.ref q :: st.map (sm_tv g))) := by
  obtain ⟨hv1, hv2⟩ := Bool.and_eq_true_iff.mp hv
  have hw1 := sc_z_wf (a := s.length) hw
  have hwe : sm_w (sc_g g s.length 1 (fun _ => q)) (s ++ [x], sc_z T s.length) = sm_w g (s, T) ++ [(q, E)] := by
    have h1 := sc_w (g := g) (xs := [x]) (T' := sc_z T s.length) (ads := fun _ => q) h3 hw (fun b hb => sc_z_o T hb)
    refine h1.trans ?_
    congr 1
    simp only [List.zipIdx_singleton, List.map_cons, List.map_nil, Nat.add_zero]
    rw [← hE]
    rfl
  rw [← hwe] at hP1 hD1
  have hR : sm_R (sc_g g s.length 1 (fun _ => q)) (s ++ [x], sc_z T s.length) H1 := ⟨sc_E (xs := [x]) h3 (fun b hb => (sc_z_o T hb).1) hE0, hP1, hD1⟩
  have hk2 := h (sc_z T s.length) (by rw [sc_len1]; exact hw1) r hr n g0 (sc_g g s.length 1 (fun _ => q)) p l e R s2 m args below meth c Q (sc_C _ h3 hC) (sc_ext _ hk hn hx) (by show n ≤ (s ++ ([x] : sm_Sh)).length; rw [sc_len1]; exact Nat.le_succ_of_le hn) hQ H1 locs ls hR hS1 (sc_L _ hv1 hL)
  rw [List.map_cons, sc_st g _ hv2] at hk2
  have hq : sm_tv (sc_g g s.length 1 (fun _ => q)) (.ref s.length) = .ref q := by
    show Value.ref _ = Value.ref _
    rw [show s.length = s.length + 0 from rfl, sc_g_in g _ (by omega : 0 < 1)]
  rw [hq] at hk2
  exact hk2
theorem sc_new (idx ci : Nat) (hci : ci < 8) (hto : ((List.range (sm_nf ci)).all fun i => sc_tok (sm_tf ci i)) = true) (hcl : Cond.classLink k.1.cls idx (sm_Rn ci) ∈ sm_tb) (hins : Cond.instantiable (sm_Rn ci) (sm_nf ci) ∈ sm_tb) (hini : Cond.initialized (sm_Rn ci) ∈ sm_tb) (h3 : 3 ≤ s.length) (hw : sc_wf s.length T) (hv : sc_ok s.length lf st = true) (hk : k.2.2.2.2.2.1 ≠ 0) (hmc : cs + 1 ≤ k.2.2.2.2.2.1) (hms : sl + sm_nf ci ≤ k.2.2.2.2.2.2) (hd : decode k.2.1 pc = .ok (.new idx, 3)) (h : ∀ T : sc_t, sc_wf (s ++ ([.inr ci] : sm_Sh)).length T → sm_S j k (cs + 1) (sl + sm_nf ci) (pc + 3) lf (.ref s.length :: st) (s ++ [.inr ci], T) (K T)) : sm_S j k cs sl pc lf st (s, T) (sm_n (sc_z T s.length) K) := by
  intro r hr n g0 g p l e R s2 m args below meth c Q hC hx hn hQ H locs ls hM hS hL
  have hts := hC.2.2.2.2.2.1
  have hA : ∀ q, s2.heap.size ≤ q → sm_A g q := fun q hq => Nat.le_trans hC.2.2.2.2.2.2.2.2.1 hq
  refine va_new (ci := ci) (fs := (List.range (sm_nf ci)).map (fun i => defaultValue (sm_tf ci i))) hC.1 hC.2.1 hts (sm_cl_in ci hci) (sm_tf ci) (sm_cl_ty ci hci) hC.2.2.2.2.1 (hts _ hcl) (hts _ hins) (hts _ hini) hC.2.2.2.2.2.2.2.2.2.1.1 hM.2.1 hM.2.2 hS hA (sm_cl_at ci hci) (fun i hi => by simp [vp_V, hi]) (Nat.le_trans hmc hC.2.2.2.2.2.2.2.2.2.2.2.2.1) (Nat.le_trans hms hC.2.2.2.2.2.2.2.2.2.2.2.2.2) hd (fun q H1 hP1 hD1 hS1 => ?_)
  refine sc_one (x := .inr ci) h3 hw hv hk h hr hC hx hn hQ hM.1 hL hS1 ?_ hP1 hD1
  simp only [sm_ce]
  congr 2
  apply List.map_congr_left
  intro i hi
  have hi2 : sc_tok (sm_tf ci i) = true := List.all_eq_true.mp hto i hi
  rw [sc_df _ hi2]
  simp only [sm_fv, sc_z, sm_up_s]
  generalize sm_kd (sm_tf ci i) = d
  match d with
  | 0 => rfl
  | 1 => rfl
  | d + 2 => rfl
theorem sc_newa {atype : ArrayType} {ty : FieldType} (t0 N : Nat) {z : Int32} (hty : newarray.typeOf atype = ty) (ht : ∀ g : sm_G, (sm_tys g)[t0]? = some (g.2.2.2.2.2 ty, ty)) (hk01 : ty = .int ∨ ty = .long ∨ ty = .boolean) (harr : Cond.arrayClass (newarray.typeOf atype) ∈ sm_tb) (hz : ¬ z < 0) (hzN : z.toNatClampNeg = N) (hby : N * componentBytes ty ≤ 536870912) (h3 : 3 ≤ s.length) (hw : sc_wf s.length T) (hv : sc_ok s.length lf st = true) (hk : k.2.2.2.2.2.1 ≠ 0) (hmc : cs + 1 ≤ k.2.2.2.2.2.1) (hms : sl + N ≤ k.2.2.2.2.2.2) (hd : decode k.2.1 pc = .ok (.newarray atype, 2)) (h : ∀ T : sc_t, sc_wf (s ++ ([.inl (ty, N)] : sm_Sh)).length T → sm_S j k (cs + 1) (sl + N) (pc + 2) lf (.ref s.length :: st) (s ++ [.inl (ty, N)], T) (K T)) : sm_S j k cs sl pc lf (.int z :: st) (s, T) (sm_n (sc_z T s.length) K) := by
  intro r hr n g0 g p l e R s2 m args below meth c Q hC hx hn hQ H locs ls hM hS hL
  have hts := hC.2.2.2.2.2.1
  have hA : ∀ q, s2.heap.size ≤ q → sm_A g q := fun q hq => Nat.le_trans hC.2.2.2.2.2.2.2.2.1 hq
  have hXK := hC.2.2.2.2.2.2.2.2.2.1.1
  refine va_newa (atype := atype) (ty := ty) (N' := N) (a0 := match sm_kd ty with | 0 => (N, .inl (fun _ => 0)) | 1 => (N, .inr (.inl (fun _ => 0))) | _ => (N, .inr (.inr (.inr (.inr (fun _ => none)))))) hC.1 hC.2.1 (hts _ harr) hty hXK hM.2.1 hM.2.2 hS hA (fun cA => by rcases hk01 with rfl | rfl | rfl <;> rfl) hz hzN hby (Nat.le_trans hmc hC.2.2.2.2.2.2.2.2.2.2.2.2.1) (Nat.le_trans hms hC.2.2.2.2.2.2.2.2.2.2.2.2.2) hd (fun q cA H1 hK1 hP1 hD1 hS1 => ?_)
  have hcA := sc_cA t0 (ht g) hXK hK1
  subst hcA
  refine sc_one (x := .inl (ty, N)) h3 hw hv hk h hr hC hx hn hQ hM.1 hL hS1 ?_ hP1 hD1
  rcases hk01 with rfl | rfl | rfl <;> simp only [sm_ce, sm_ar, sm_kd, sc_z, sm_up_s] <;> rfl
theorem sc_newq (t0 N : Nat) {z : Int32} (idx : Nat) (ht : ∀ g : sm_G, (sm_tys g)[t0]? = some (g.2.2.2.2.2 (.object "TwoFliers$Sign"), .object "TwoFliers$Sign")) (hcl : Cond.classLink k.1.cls idx "TwoFliers$Sign" ∈ sm_tb) (hz : ¬ z < 0) (hzN : z.toNatClampNeg = N) (hby : N * 4 ≤ 536870912) (h3 : 3 ≤ s.length) (hw : sc_wf s.length T) (hv : sc_ok s.length lf st = true) (hk : k.2.2.2.2.2.1 ≠ 0) (hmc : cs + 1 ≤ k.2.2.2.2.2.1) (hms : sl + N ≤ k.2.2.2.2.2.2) (hd : decode k.2.1 pc = .ok (.anewarray idx, 3)) (h : ∀ T : sc_t, sc_wf (s ++ ([.inl (.object "TwoFliers$Sign", N)] : sm_Sh)).length T → sm_S j k (cs + 1) (sl + N) (pc + 3) lf (.ref s.length :: st) (s ++ [.inl (.object "TwoFliers$Sign", N)], T) (K T)) : sm_S j k cs sl pc lf (.int z :: st) (s, T) (sm_n (sc_z T s.length) K) := by
  intro r hr n g0 g p l e R s2 m args below meth c Q hC hx hn hQ H locs ls hM hS hL
  have hts := hC.2.2.2.2.2.1
  have hA : ∀ q, s2.heap.size ≤ q → sm_A g q := fun q hq => Nat.le_trans hC.2.2.2.2.2.2.2.2.1 hq
  have hXK := hC.2.2.2.2.2.2.2.2.2.1.1
  refine va_newq (N' := N) hC.1 hC.2.1 hC.2.2.2.2.1 (hts _ hcl) hC.2.2.2.2.2.2.2.2.2.1.2.2.2.2.2.2.2.2.2.1 hXK hM.2.1 hM.2.2 hS hA hz hzN hby (Nat.le_trans hmc hC.2.2.2.2.2.2.2.2.2.2.2.2.1) (Nat.le_trans hms hC.2.2.2.2.2.2.2.2.2.2.2.2.2) hd (fun q cA H1 hK1 hP1 hD1 hS1 => ?_)
  have hcA := sc_cA t0 (ht g) hXK hK1
  subst hcA
  refine sc_one (x := .inl (.object "TwoFliers$Sign", N)) h3 hw hv hk h hr hC hx hn hQ hM.1 hL hS1 ?_ hP1 hD1
  simp only [sm_ce, sm_ar, sm_kd, sc_z, sm_up_s]
  rfl
end
end
section
/-! ===== making cells: rows of rows, stores, constructors' calls ===== -/
theorem sx_C {k : sm_K} {g g' : sm_G} {p : Program} {R : Room} {s : State} {m : MethodId} {args : Array Value} {meth : Method} {c : Code} {n : Nat} (h3 : 3 ≤ n) (hi : ∀ i, i < n → g'.1 i = g.1 i) (h2 : g'.2 = g.2) (h : sm_C k g p R s m args meth c) : sm_C k g' p R s m args meth c := by
  obtain ⟨c1, c2, c3, c4, c5, c6, c7, c8, c9, c10, c11⟩ := h
  refine ⟨c1, c2, c3, c4, c5, c6, c7, c8, by rw [h2]; exact c9, ?_, c11⟩
  have e4 : sm_A g' = sm_A g := sm_A_eq h2
  have e5 : sm_tys g' = sm_tys g := by unfold sm_tys; rw [h2]
  unfold sm_X
  rw [e4, e5, hi 0 (by omega), hi 1 (by omega), hi 2 (by omega), h2]
  exact c10
theorem sx_ext {k : sm_K} {g0 g g' : sm_G} {n0 n : Nat} (hk : k.2.2.2.2.2.1 ≠ 0) (hn : n0 ≤ n) (hi : ∀ i, i < n → g'.1 i = g.1 i) (h2 : g'.2 = g.2) (h : sm_ext k n0 g0 g) : sm_ext k n0 g0 g' := ⟨fun i q => (hi i (by omega)).trans (h.1 i q), h2.trans h.2.1, fun z => absurd z hk⟩
theorem sx_tv {g g' : sm_G} {n : Nat} (hi : ∀ i, i < n → g'.1 i = g.1 i) {v : Value} (h : sc_ov n v = true) : sm_tv g' v = sm_tv g v := by
  cases v with
  | ref a =>
    have ha : a < n := by simpa [sc_ov] using h
    show Value.ref _ = Value.ref _
    rw [hi a ha]
  | _ => rfl
theorem sx_st {g g' : sm_G} {n : Nat} (hi : ∀ i, i < n → g'.1 i = g.1 i) {st : List Value} (h : st.all (sc_ov n) = true) : st.map (sm_tv g') = st.map (sm_tv g) := List.map_congr_left fun v hv => sx_tv hi (List.all_eq_true.mp h v hv)
theorem sx_L {g g' : sm_G} {n q : Nat} (hi : ∀ i, i < n → g'.1 i = g.1 i) {lf : List (Option Value)} {ls : Array Slot} (h : lf.all (sc_ol n) = true) (hL : sm_L g q lf ls) : sm_L g' q lf ls := ⟨hL.1, hL.2.1, fun i v hv => by
  have h1 := List.all_eq_true.mp h _ (List.mem_of_getElem? hv)
  rw [sx_tv hi h1]
  exact hL.2.2 i v hv⟩
def sc_j (s : sm_Sh) : sc_t → Option Value × sm_M := fun T => (none, (s, T))
/-- rows of rows: the outer array at a, the inner ones behind it -/
def sc_zm (T : sc_t) (a N : Nat) : sc_t := (fun b => if a ≤ b ∧ b < a + (N + 1) then (fun _ => 0) else T.1 b, fun b => if a ≤ b ∧ b < a + (N + 1) then (fun _ => 0) else T.2.1 b, fun b => if b = a then (fun i => if i < N then some (a + (i + 1)) else none) else if a ≤ b ∧ b < a + (N + 1) then (fun _ => none) else T.2.2 b)
def sc_xs (ty : FieldType) (N K : Nat) : sm_Sh := .inl (.array ty, N) :: List.replicate N (.inl (ty, K))
theorem sc_xs_len (ty : FieldType) (N K : Nat) : (sc_xs ty N K).length = N + 1 := by simp [sc_xs]
theorem sc_zm_wf {T : sc_t} {n N : Nat} (h : sc_wf n T) : sc_wf (n + (N + 1)) (sc_zm T n N) := fun x i b hb => by
  simp only [sc_zm] at hb
  split at hb
  · dsimp only at hb
    split at hb
    · have := Option.some.inj hb
      omega
    · cases hb
  · split at hb
    · cases hb
    · have := h x i b hb
      omega
section
variable {ρ ρ2 : Type} {j : ρ → Option Value × sm_M} {k k2 : sm_K} {cs sl pc : Nat} {lf : List (Option Value)} {st : List Value} {s s2 : sm_Sh} {T : sc_t} {o2 : Option sc_t} {o : Option ρ} {K : sc_t → Option ρ}
set_option maxHeartbeats 1000000 in
theorem sc_mna {ty : FieldType} (t0 t1 N K' : Nat) {z y : Int32} (idx : Nat) (hty : ty = .int ∨ ty = .byte) (ht : ∀ g : sm_G, (sm_tys g)[t0]? = some (g.2.2.2.2.2 (.array ty), .array ty)) (ht1 : ∀ g : sm_G, (sm_tys g)[t1]? = some (g.2.2.2.2.2 ty, ty)) (hcl : Cond.classLink k.1.cls idx ("[" ++ (FieldType.array ty).toString) ∈ sm_tb) (harr : Cond.arrayClass ty ∈ sm_tb) (hz : ¬ z < 0) (hy : ¬ y < 0) (hzN : z.toNatClampNeg = N) (hyK : y.toNatClampNeg = K') (hb1 : N * 4 ≤ 536870912) (hb2 : K' * componentBytes ty ≤ 536870912) (hb3 : K' ≤ 536870912) (h3 : 3 ≤ s.length) (hw : sc_wf s.length T) (hv : sc_ok s.length lf st = true) (hk : k.2.2.2.2.2.1 ≠ 0) (hmc : cs + (1 + N) ≤ k.2.2.2.2.2.1) (hms : sl + (N + N * K') ≤ k.2.2.2.2.2.2) (hd : decode k.2.1 pc = .ok (.multianewarray idx 2, 4)) (h : ∀ T : sc_t, sc_wf (s ++ sc_xs ty N K').length T → sm_S j k (cs + 1 + N) (sl + N + N * K') (pc + 4) lf (.ref s.length :: st) (s ++ sc_xs ty N K', T) (K T)) : sm_S j k cs sl pc lf (.int y :: .int z :: st) (s, T) (sm_n (sc_zm T s.length N) K) := by
  intro r hr n g0 g p l e R s3 m args below meth c Q hC hx hn hQ H locs ls hM hS hL
  obtain ⟨hv1, hv2⟩ := Bool.and_eq_true_iff.mp hv
  have hts := hC.2.2.2.2.2.1
  have hA : ∀ q, s3.heap.size ≤ q → sm_A g q := fun q hq => Nat.le_trans hC.2.2.2.2.2.2.2.2.1 hq
  have hXK := hC.2.2.2.2.2.2.2.2.2.1.1
  have hNn := hC.2.2.2.2.2.2.2.2.2.1.2.2.2.2.2.2.2.2
  have hAOA : va_AOA ty s3 := by rcases hty with rfl | rfl; exact hNn.2.2.1; exact hNn.2.2.2
  have hcy : s3.vm.findClass (FieldType.array ty).toString = some (g.2.2.2.2.2 ty) := by
    have h1 := (hXK.2 t1 _ (ht1 g)).2
    rcases hty with rfl | rfl <;> exact h1
  have hP0 : va_P g.2.2.2.2.1 sm_cl (sm_w g (s, T) ++ va_pl [] (fun _ => .inr (0, []))) H := by simpa [va_pl] using hM.2.1
  have hD0 : va_D (sm_A g) (sm_w g (s, T) ++ va_pl [] (fun _ => .inr (0, []))) := by simpa [va_pl] using hM.2.2
  refine va_mna (ty := ty) (cy := g.2.2.2.2.2 ty) (N' := N) (K' := K') (z := (K', .inl (fun _ => 0))) hC.1 hC.2.1 hC.2.2.2.2.1 (hts _ hcl) hAOA (hts _ harr) hcy hXK hP0 hD0 hS hA hz hy hzN hyK hb1 hb2 hb3 (by rcases hty with rfl | rfl <;> rfl) (by rcases hty with rfl | rfl <;> rfl) (Nat.le_trans hmc hC.2.2.2.2.2.2.2.2.2.2.2.2.1) (Nat.le_trans hms hC.2.2.2.2.2.2.2.2.2.2.2.2.2) (fun cc => by
    have hdv : defaultValue ty = .int 0 := by rcases hty with rfl | rfl <;> rfl
    rw [hdv]
    show ({ cls := cc, slots := Array.replicate K' (.int 0), vm := .none } : Cell) = _
    rw [arrV_new]
    rfl) hd (fun q rr cA H1 hinj hnl hK1 hP1 hD1 hS1 => ?_)
  have hcA := sc_cA t0 (ht g) hXK hK1
  subst hcA
  have hw1 := sc_zm_wf (N := N) hw
  have ho : ∀ b, b < s.length → (sc_zm T s.length N).1 b = T.1 b ∧ (sc_zm T s.length N).2.1 b = T.2.1 b ∧ (sc_zm T s.length N).2.2 b = T.2.2 b := fun b hb => by
    refine ⟨if_neg (by omega), if_neg (by omega), ?_⟩
    show (if b = s.length then _ else if s.length ≤ b ∧ b < s.length + (N + 1) then _ else T.2.2 b) = _
    rw [if_neg (by omega), if_neg (by omega)]
  have hwe0 := sc_w (g := g) (xs := sc_xs ty N K') (T' := sc_zm T s.length N) (ads := fun i => if i = 0 then q else rr (i - 1)) h3 hw ho
  generalize hg' : sc_g g s.length (sc_xs ty N K').length (fun i => if i = 0 then q else rr (i - 1)) = g' at hwe0
  have hgl : ∀ i, i < s.length → g'.1 i = g.1 i := fun i hi => by rw [← hg']; exact sc_g_lt g _ hi
  have hg2 : g'.2 = g.2 := by rw [← hg']; rfl
  have hgi : ∀ i, i < N + 1 → g'.1 (s.length + i) = if i = 0 then q else rr (i - 1) := fun i hi => by rw [← hg']; exact sc_g_in g _ (by rw [sc_xs_len]; exact hi)
  have hkd : sm_kd ty = 0 := by rcases hty with rfl | rfl <;> rfl
  have htail : (sc_xs ty N K').zipIdx.map (fun x => ((if x.2 = 0 then q else rr (x.2 - 1) : Nat), sm_ce g' (s ++ sc_xs ty N K', sc_zm T s.length N) (s.length + x.2) x.1)) = [(q, .inl (g.2.2.2.2.2 (.array ty), N, .inr (.inr (.inr (.inr (fun i => if i < N then some (rr i) else none))))))] ++ (List.range N).map (fun i => (rr i, .inl (g.2.2.2.2.2 ty, K', .inl (fun _ => 0)))) := by
    apply List.ext_getElem?
    intro i
    rw [List.getElem?_map, List.getElem?_zipIdx]
    match i with
    | 0 =>
      simp only [sc_xs, List.getElem?_cons_zero, Option.map_some, Nat.zero_add, if_pos, List.cons_append, List.nil_append, Nat.add_zero]
      have hf : (fun j => ((sc_zm T s.length N).2.2 s.length j).map g'.1) = fun i => if i < N then some (rr i) else none := funext fun i => by
        show (((if s.length = s.length then (fun i => if i < N then some (s.length + (i + 1)) else none) else if s.length ≤ s.length ∧ s.length < s.length + (N + 1) then (fun _ => none) else T.2.2 s.length) : Nat → Option Nat) i).map g'.1 = _
        rw [if_pos rfl]
        by_cases hi : i < N
        · rw [if_pos hi, if_pos hi, Option.map_some, hgi (i + 1) (by omega), if_neg (by omega), Nat.add_sub_cancel]
        · rw [if_neg hi, if_neg hi]
          rfl
      simp only [sm_ce, sm_ar, sm_kd, hf, hg2]
    | i + 1 =>
      simp only [sc_xs, List.getElem?_cons_succ, List.cons_append, List.nil_append]
      by_cases hi : i < N
      · rw [List.getElem?_replicate, if_pos hi, List.getElem?_map, List.getElem?_range hi]
        simp only [Option.map_some, Nat.zero_add, if_neg (Nat.succ_ne_zero i), Nat.add_sub_cancel]
        have hz1 : (sc_zm T s.length N).1 (s.length + (i + 1)) = fun _ => 0 := if_pos (by omega)
        simp only [sm_ce, sm_ar, hkd, hz1, hg2]
      · rw [List.getElem?_replicate, if_neg hi, List.getElem?_eq_none (by simpa using hi)]
        rfl
  have hpl : va_pl ([] ++ (List.range N).map rr) (vr_up (fun _ => (.inr (0, []) : va_E)) ((List.range N).map rr) (.inl (g.2.2.2.2.2 ty, K', .inl (fun _ => 0)))) = (List.range N).map (fun i => (rr i, (.inl (g.2.2.2.2.2 ty, K', .inl (fun _ => 0)) : va_E))) := by
    unfold va_pl
    rw [List.nil_append, List.map_map]
    apply List.map_congr_left
    intro i hi
    show (rr i, vr_up _ _ _ (rr i)) = _
    rw [vr_up_in (List.mem_map.mpr ⟨i, hi, rfl⟩)]
  rw [hpl, List.append_assoc, ← htail, ← hwe0] at hP1 hD1
  have hE1 : sm_E g' (s ++ sc_xs ty N K', sc_zm T s.length N) := by
    rw [← hg']
    exact sc_E h3 (fun b hb => (ho b hb).1) hM.1
  have hAg : sm_A g' = sm_A g := sm_A_eq hg2
  have hR : sm_R g' (s ++ sc_xs ty N K', sc_zm T s.length N) H1 := ⟨hE1, by rw [hg2]; exact hP1, by rw [hAg]; exact hD1⟩
  have hll : (s ++ sc_xs ty N K').length = s.length + (N + 1) := by rw [List.length_append, sc_xs_len]
  have hk2 := h (sc_zm T s.length N) (by rw [hll]; exact hw1) r hr n g0 g' p l e R s3 m args below meth c Q (sx_C h3 hgl hg2 hC) (sx_ext hk hn hgl hg2 hx) (by show n ≤ (s ++ sc_xs ty N K').length; rw [hll]; exact Nat.le_trans hn (by show s.length ≤ _; omega)) hQ H1 locs ls hR (by rw [hAg]; exact hS1) (sx_L hgl hv1 hL)
  rw [List.map_cons, sx_st hgl hv2] at hk2
  have hq : sm_tv g' (.ref s.length) = .ref q := by
    show Value.ref _ = Value.ref _
    have := hgi 0 (by omega)
    rw [Nat.add_zero, if_pos rfl] at this
    rw [this]
  rw [hq] at hk2
  exact hk2
theorem sc_cI {b : Nat} (idx : Nat) (hd : decode k.2.1 pc = .ok (.invokespecial idx, 3)) (hl : Cond.methodLink k.1.cls idx k2.1 ∈ sm_tb) (hins : Cond.instanceMethod k2.1 ∈ sm_tb) (hnm : k2.1.name = "<init>") (hme : sm_me k2 0) (hret : k2.2.2.2.1 = none) (hfr : k2.2.2.2.2.1 + 1 ≤ k.2.2.2.2.1 ∧ k2.2.2.1 ≤ 45) (hrs : (st.map fun v => v.category).sum ≤ 8) (hen : (([.ref b] : List Value).flatMap (fun v => if v.category = 2 then [some v, none] else [some v])).length ≤ k2.2.2.1) (hk : k.2.2.2.2.2.1 ≠ 0) (hmc : cs + k2.2.2.2.2.2.1 ≤ k.2.2.2.2.2.1) (hms : sl + k2.2.2.2.2.2.2 ≤ k.2.2.2.2.2.2) (h3 : 3 ≤ s.length) (hlen : s.length ≤ s2.length) (hv : sc_ok s.length lf st = true) (hp : sm_P (sc_j s2) k2 [.ref b] (s, T) o2) (hwf : ∀ T2, o2 = some T2 → sc_wf s2.length T2) (h : ∀ T : sc_t, sc_wf s2.length T → sm_S j k (cs + k2.2.2.2.2.2.1) (sl + k2.2.2.2.2.2.2) (pc + 3) lf st (s2, T) (K T)) : sm_S j k cs sl pc lf (.ref b :: st) (s, T) (o2.bind K) := by
  intro r hr n g0 g p l e R s3 m args below meth c Q hC hx hn hQ H locs ls hM hS hL
  obtain ⟨hv1, hv2⟩ := Bool.and_eq_true_iff.mp hv
  obtain ⟨T2, ho, hr⟩ : ∃ T2, o2 = some T2 ∧ K T2 = some r := by
    cases ho : o2 with
    | none => rw [ho] at hr; cases hr
    | some T2 => rw [ho] at hr; exact ⟨T2, rfl, hr⟩
  have hMet := sm_met hme.1 hme.2.1 hp ho (show sm_ro k2.2.2.2.1 (sc_j s2 T2).1 from hret) hen l g
  have hts := hC.2.2.2.2.2.1
  have hfr1 : (sm_rm k2).frames + 1 ≤ R.frames := Nat.le_trans hfr.1 hC.2.2.2.2.2.2.2.2.2.2.1
  have hfr2 : 8 + (k2.2.2.1 + 11) + (sm_rm k2).locals ≤ R.locals := by
    have h1 := hC.2.2.2.2.2.2.2.2.2.2.2.1
    have h2 := hfr.1
    have h3 := hfr.2
    show 8 + (k2.2.2.1 + 11) + 64 * k2.2.2.2.2.1 ≤ R.locals
    omega
  have hf : cs + k2.2.2.2.2.2.1 ≤ R.cells ∧ sl + k2.2.2.2.2.2.2 ≤ R.slots := ⟨Nat.le_trans hmc hC.2.2.2.2.2.2.2.2.2.2.2.2.1, Nat.le_trans hms hC.2.2.2.2.2.2.2.2.2.2.2.2.2⟩
  have hrun : va_Run p l e R s3 m args below meth c H locs cs sl k2.2.2.2.2.2.1 k2.2.2.2.2.2.2 (F0 m pc ls ((.ref b :: st).map (sm_tv g))) (st.map (sm_tv g)) (sm_Qc k2 s.length g (sc_j s2 T2) (([.ref b] : List Value).map (sm_tv g)).toArray) (sm_A g) := by
    exact va_runI (n := 0) (b := g.1 b) (As := []) ⟨hC.1, hC.2.1, hC.2.2.2.1, hC.2.2.2.2.1, hts⟩ hMet ⟨callB_of 0 hts (sm_gi2 hme.2.1) (by rw [← hret]) rfl rfl (hts _ hme.2.2.1) (hts _ hl) hme.2.2.2 ⟨hfr1, hfr2⟩, hnm, hts _ hins⟩ ⟨sm_bl, sm_pre hC hM hS⟩ rfl rfl hL.1 rfl (by rw [show (F0 m pc ls ((.ref b :: st).map (sm_tv g))).monitorRoom = 0 from rfl, sm_cats]; omega) hd hf
  refine sm_call hrun hS (fun g' H1 locs1 hx1 hR1 hS1 => ?_)
  have hAg : sm_A g' = sm_A g := sm_A_eq hx1.2.1
  have hk2 := h T2 (hwf T2 ho) r hr n g0 g' p l e R s3 m args below meth c Q (sx_C h3 hx1.1 hx1.2.1 hC) (sx_ext hk hn hx1.1 hx1.2.1 hx) (Nat.le_trans hn hlen) hQ H1 locs1 ls hR1 (by rw [hAg]; exact hS1) (sx_L hx1.1 hv1 hL)
  rw [sx_st hx1.1 hv2] at hk2
  exact hk2
theorem sc_cIN {b : Nat} (idx : Nat) (host : String) (hd : decode k.2.1 pc = .ok (.invokespecial idx, 3)) (hl : (k.1.cls, idx, k2.1, host) ∈ sm_nl) (hins : Cond.instanceMethod k2.1 ∈ sm_tb) (hnm : k2.1.name = "<init>") (hme : sm_me k2 0) (hret : k2.2.2.2.1 = none) (hfr : k2.2.2.2.2.1 + 1 ≤ k.2.2.2.2.1 ∧ k2.2.2.1 ≤ 45) (hrs : (st.map fun v => v.category).sum ≤ 8) (hen : (([.ref b] : List Value).flatMap (fun v => if v.category = 2 then [some v, none] else [some v])).length ≤ k2.2.2.1) (hk : k.2.2.2.2.2.1 ≠ 0) (hmc : cs + k2.2.2.2.2.2.1 ≤ k.2.2.2.2.2.1) (hms : sl + k2.2.2.2.2.2.2 ≤ k.2.2.2.2.2.2) (h3 : 3 ≤ s.length) (hlen : s.length ≤ s2.length) (hv : sc_ok s.length lf st = true) (hp : sm_P (sc_j s2) k2 [.ref b] (s, T) o2) (hwf : ∀ T2, o2 = some T2 → sc_wf s2.length T2) (h : ∀ T : sc_t, sc_wf s2.length T → sm_S j k (cs + k2.2.2.2.2.2.1) (sl + k2.2.2.2.2.2.2) (pc + 3) lf st (s2, T) (K T)) : sm_S j k cs sl pc lf (.ref b :: st) (s, T) (o2.bind K) := by
  intro r hr n g0 g p l e R s3 m args below meth c Q hC hx hn hQ H locs ls hM hS hL
  obtain ⟨hv1, hv2⟩ := Bool.and_eq_true_iff.mp hv
  obtain ⟨T2, ho, hr⟩ : ∃ T2, o2 = some T2 ∧ K T2 = some r := by
    cases ho : o2 with
    | none => rw [ho] at hr; cases hr
    | some T2 => rw [ho] at hr; exact ⟨T2, rfl, hr⟩
  have hMet := sm_met hme.1 hme.2.1 hp ho (show sm_ro k2.2.2.2.1 (sc_j s2 T2).1 from hret) hen l g
  have hts := hC.2.2.2.2.2.1
  have hfr1 : (sm_rm k2).frames + 1 ≤ R.frames := Nat.le_trans hfr.1 hC.2.2.2.2.2.2.2.2.2.2.1
  have hfr2 : 8 + (k2.2.2.1 + 11) + (sm_rm k2).locals ≤ R.locals := by
    have h1 := hC.2.2.2.2.2.2.2.2.2.2.2.1
    have h2 := hfr.1
    have h3 := hfr.2
    show 8 + (k2.2.2.1 + 11) + 64 * k2.2.2.2.2.1 ≤ R.locals
    omega
  have hf : cs + k2.2.2.2.2.2.1 ≤ R.cells ∧ sl + k2.2.2.2.2.2.2 ≤ R.slots := ⟨Nat.le_trans hmc hC.2.2.2.2.2.2.2.2.2.2.2.2.1, Nat.le_trans hms hC.2.2.2.2.2.2.2.2.2.2.2.2.2⟩
  have hrun : va_Run p l e R s3 m args below meth c H locs cs sl k2.2.2.2.2.2.1 k2.2.2.2.2.2.2 (F0 m pc ls ((.ref b :: st).map (sm_tv g))) (st.map (sm_tv g)) (sm_Qc k2 s.length g (sc_j s2 T2) (([.ref b] : List Value).map (sm_tv g)).toArray) (sm_A g) := by
    exact va_runIN (n := 0) (b := g.1 b) (As := []) ⟨hC.1, hC.2.1, hC.2.2.2.1, hC.2.2.2.2.1, hts⟩ hMet ⟨va_cnB 0 hts (sm_gi2 hme.2.1) (by rw [← hret]) rfl rfl (hC.2.2.2.2.2.2.2.2.2.1.2.2.2.2.2.2.2.2.1 _ hl) (hts _ hme.2.2.1) hme.2.2.2 ⟨hfr1, hfr2⟩, hnm, hts _ hins⟩ ⟨sm_bl, sm_pre hC hM hS⟩ rfl rfl hL.1 rfl (by rw [show (F0 m pc ls ((.ref b :: st).map (sm_tv g))).monitorRoom = 0 from rfl, sm_cats]; omega) hd hf
  refine sm_call hrun hS (fun g' H1 locs1 hx1 hR1 hS1 => ?_)
  have hAg : sm_A g' = sm_A g := sm_A_eq hx1.2.1
  have hk2 := h T2 (hwf T2 ho) r hr n g0 g' p l e R s3 m args below meth c Q (sx_C h3 hx1.1 hx1.2.1 hC) (sx_ext hk hn hx1.1 hx1.2.1 hx) (Nat.le_trans hn hlen) hQ H1 locs1 ls hR1 (by rw [hAg]; exact hS1) (sx_L hx1.1 hv1 hL)
  rw [sx_st hx1.1 hv2] at hk2
  exact hk2
/-- Object's own constructor -/
theorem sd_obj {M : sm_M} {b : Nat} (idx : Nat) (hl : Cond.methodLink k.1.cls idx objectInit ∈ sm_tb) (hins : Cond.instanceMethod objectInit ∈ sm_tb) (hcd : Cond.code objectInit ⟨#[0xb1]⟩ 1 none ∈ sm_tb) (hk : 1 ≤ k.2.2.2.2.1) (hrs : (st.map fun v => v.category).sum ≤ 8) (hd : decode k.2.1 pc = .ok (.invokespecial idx, 3)) (h : sm_S j k cs sl (pc + 3) lf st M o) : sm_S j k cs sl pc lf (.ref b :: st) M o := by
  intro r hr n g0 g p l e R s3 m args below meth c Q hC hx hn hQ H locs ls hM hS hL
  have hts := hC.2.2.2.2.2.1
  have hfr : 1 ≤ R.frames := Nat.le_trans hk hC.2.2.2.2.2.2.2.2.2.2.1
  refine W.objInit hC.1 hC.2.1 hC.2.2.2.2.1 (hts _ hl) (hts _ hins) (hts _ hcd) rfl (hL.1.trans hC.2.2.2.1.symm) (a := g.1 b) (rest := st.map (sm_tv g)) rfl hd hfr (by
    rw [show (F0 m pc ls ((.ref b :: st).map (sm_tv g))).monitorRoom = 0 from rfl, sm_cats]
    have h1 := hC.2.2.2.2.2.2.2.2.2.2.2.1
    omega) ?_
  exact h r hr n g0 g p l e R s3 m args below meth c Q hC hx hn hQ H locs ls hM hS hL
theorem sc_vret (hd : decode k.2.1 pc = .ok (.return_, 1)) (hcs : cs ≤ k.2.2.2.2.2.1) (hsl : sl ≤ k.2.2.2.2.2.2) : sm_S (sc_j s) k cs sl pc lf [] (s, T) (some T) := by
  intro r hr n g0 g p l e R s3 m args below meth c Q hC hx hn hQ H locs ls hM hS hL
  cases hr
  exact hQ g H locs ls pc cs sl hx hM (sm_A_eq hx.2.1 ▸ hS) hcs hsl hd (fun _ hu => by cases hu)
def sc_wI (T : sc_t) (a i : Nat) (x : Int32) : sc_t := (va_up T.1 a (upd (T.1 a) i x), T.2)
def sc_wL (T : sc_t) (a i : Nat) (x : Int64) : sc_t := (T.1, va_up T.2.1 a (vp_updL (T.2.1 a) i x), T.2.2)
def sc_wR (T : sc_t) (a i : Nat) (x : Option Nat) : sc_t := (T.1, T.2.1, va_up T.2.2 a (va_up (T.2.2 a) i x))
theorem sc_wR_wf {n a i : Nat} {x : Option Nat} (hx : ∀ b, x = some b → b < n) (h : sc_wf n T) : sc_wf n (sc_wR T a i x) := fun y z b hb => by
  by_cases e : y = a
  · subst e
    by_cases e2 : z = i
    · subst e2
      simp only [sc_wR, sm_up_s] at hb
      exact hx b hb
    · simp only [sc_wR, sm_up_s, sm_up_o _ _ e2] at hb
      exact h _ _ _ hb
  · simp only [sc_wR, sm_up_o _ _ e] at hb
    exact h _ _ _ hb
theorem sc_putI {a idx ci i : Nat} {x : Int32} (hs : s[a]? = some (.inr ci)) (h3 : 3 ≤ a) (hk : sm_tf ci i = .int ∨ sm_tf ci i = .boolean ∧ (x = 0 ∨ x = 1)) (hf : sm_fl k.1.cls idx ci i) (hfin : (sm_T ci i).2.2.2 = false ∨ ((sm_T ci i).2.2.2 = true ∧ k.1.name = "<init>" ∧ (sm_T ci i).1 = k.1.cls)) (hw : sc_wf s.length T) (hd : decode k.2.1 pc = .ok (.putfield idx, 3)) (h : ∀ T : sc_t, sc_wf s.length T → sm_S j k cs sl (pc + 3) lf st (s, T) (K T)) : sm_S j k cs sl pc lf (.int x :: .ref a :: st) (s, T) (sm_n (sc_wI T a i x) K) :=
  sd_put h3 hs hf hfin (fun g => by
    rcases hk with hk | ⟨hk, hx⟩
    · rw [hk]; exact ⟨rfl, rfl⟩
    · rw [hk]; rcases hx with rfl | rfl <;> exact ⟨rfl, rfl⟩) (M' := (s, sc_wI T a i x)) rfl (fun b hb => ⟨sm_up_o _ _ hb, rfl, rfl⟩) (fun g z hz => by
    have hkd : sm_kd (sm_tf ci i) = 0 := by rcases hk with hk | ⟨hk, -⟩ <;> rw [hk] <;> rfl
    by_cases e : z = i
    · subst e
      rw [if_pos rfl]
      simp only [sm_fv, hkd, sc_wI, sm_up_s, upd, if_pos]
      rfl
    · rw [if_neg e]
      simp only [sm_fv, sc_wI, sm_up_s, upd, if_neg e]) hd (h _ hw)
theorem sc_putL {a idx ci i : Nat} {x : Int64} (hs : s[a]? = some (.inr ci)) (h3 : 3 ≤ a) (hk : sm_tf ci i = .long) (hf : sm_fl k.1.cls idx ci i) (hfin : (sm_T ci i).2.2.2 = false) (hw : sc_wf s.length T) (hd : decode k.2.1 pc = .ok (.putfield idx, 3)) (h : ∀ T : sc_t, sc_wf s.length T → sm_S j k cs sl (pc + 3) lf st (s, T) (K T)) : sm_S j k cs sl pc lf (.long x :: .ref a :: st) (s, T) (sm_n (sc_wL T a i x) K) :=
  sd_put h3 hs hf (Or.inl hfin) (fun g => by rw [hk]; exact ⟨rfl, rfl⟩) (M' := (s, sc_wL T a i x)) rfl (fun b hb => ⟨rfl, sm_up_o _ _ hb, rfl⟩) (fun g z hz => by
    by_cases e : z = i
    · subst e
      rw [if_pos rfl]
      simp only [sm_fv, hk, sm_kd, sc_wL, sm_up_s, vp_updL, if_pos]
      rfl
    · rw [if_neg e]
      simp only [sm_fv, sc_wL, sm_up_s, vp_updL, if_neg e]) hd (h _ hw)
theorem sc_putR {a idx ci i b : Nat} (hs : s[a]? = some (.inr ci)) (h3 : 3 ≤ a) (hk : sm_kd (sm_tf ci i) = 2) (hk2 : ∀ v : Nat, narrow (sm_tf ci i) (.ref v) = .ref v ∧ fits (sm_tf ci i) (.ref v) = true) (hb : b < s.length) (hf : sm_fl k.1.cls idx ci i) (hfin : (sm_T ci i).2.2.2 = false ∨ ((sm_T ci i).2.2.2 = true ∧ k.1.name = "<init>" ∧ (sm_T ci i).1 = k.1.cls)) (hw : sc_wf s.length T) (hd : decode k.2.1 pc = .ok (.putfield idx, 3)) (h : ∀ T : sc_t, sc_wf s.length T → sm_S j k cs sl (pc + 3) lf st (s, T) (K T)) : sm_S j k cs sl pc lf (.ref b :: .ref a :: st) (s, T) (sm_n (sc_wR T a i (some b)) K) :=
  sd_put h3 hs hf hfin (fun g => hk2 (g.1 b)) (M' := (s, sc_wR T a i (some b))) rfl (fun x hx => ⟨rfl, rfl, sm_up_o _ _ hx⟩) (fun g z hz => by
    by_cases e : z = i
    · subst e
      rw [if_pos rfl]
      simp only [sm_fv, hk, sc_wR, sm_up_s]
      rfl
    · rw [if_neg e]
      simp only [sm_fv, sc_wR, sm_up_s, sm_up_o _ _ e]) hd (h _ (sc_wR_wf (fun c hc => by cases hc; exact hb) hw))
theorem sc_putN {a idx ci i : Nat} (hs : s[a]? = some (.inr ci)) (h3 : 3 ≤ a) (hk : sm_kd (sm_tf ci i) = 2) (hk2 : narrow (sm_tf ci i) .null = .null ∧ fits (sm_tf ci i) .null = true) (hf : sm_fl k.1.cls idx ci i) (hfin : (sm_T ci i).2.2.2 = false) (hw : sc_wf s.length T) (hd : decode k.2.1 pc = .ok (.putfield idx, 3)) (h : ∀ T : sc_t, sc_wf s.length T → sm_S j k cs sl (pc + 3) lf st (s, T) (K T)) : sm_S j k cs sl pc lf (.null :: .ref a :: st) (s, T) (sm_n (sc_wR T a i none) K) :=
  sd_put h3 hs hf (Or.inl hfin) (fun g => hk2) (M' := (s, sc_wR T a i none)) rfl (fun x hx => ⟨rfl, rfl, sm_up_o _ _ hx⟩) (fun g z hz => by
    by_cases e : z = i
    · subst e
      rw [if_pos rfl]
      simp only [sm_fv, hk, sc_wR, sm_up_s]
      rfl
    · rw [if_neg e]
      simp only [sm_fv, sc_wR, sm_up_s, sm_up_o _ _ e]) hd (h _ (sc_wR_wf (fun c hc => by cases hc) hw))
theorem sc_getR {a idx ci i : Nat} (b : Nat) (hs : s[a]? = some (.inr ci)) (h3 : 3 ≤ a) (hk : sm_kd (sm_tf ci i) = 2) (hf : sm_fl k.1.cls idx ci i) (hd : decode k.2.1 pc = .ok (.getfield idx, 3)) (h : sm_S j k cs sl (pc + 3) lf (.ref b :: st) (s, T) o) : sm_S j k cs sl pc lf (.ref a :: st) (s, T) (if T.2.2 a i = some b then o else none) :=
  sd_ite (fun q => sd_get h3 hs hf (v := .ref b) (fun g => by simp only [sm_fv, hk, q]; rfl) hd h) (fun _ => sd_none)
theorem sc_iast {a n : Nat} {i x : Int32} (hs : s[a]? = some (.inl (.int, n))) (h3 : 3 ≤ a) (hi : sm_ix i n = true) (hw : sc_wf s.length T) (hd : decode k.2.1 pc = .ok (.iastore, 1)) (h : ∀ T : sc_t, sc_wf s.length T → sm_S j k cs sl (pc + 1) lf st (s, T) (K T)) : sm_S j k cs sl pc lf (.int x :: .int i :: .ref a :: st) (s, T) (sm_n (sc_wI T a i.toNatClampNeg x) K) := by
  intro r hr nn g0 g p l e R s3 m args below meth c Q hC hx hn hQ H locs ls hM hS hL
  have hw2 : (sm_w g (s, T))[a - 3]? = some (g.1 a, .inl (g.2.2.2.2.2 .int, n, .inl (T.1 a))) := sm_w_at (M := (s, T)) hs h3
  refine va_iast hC.1 hC.2.1 hC.2.2.2.2.2.2.2.2.2.1.1 hM.2.1 hM.2.2 hS (a - 3) 0 hw2 rfl (sm_ix_in hi) hd (fun H1 locs1 hP1 hD1 hS1 => ?_)
  exact h (sc_wI T a i.toNatClampNeg x) hw r hr nn g0 g p l e R s3 m args below meth c Q hC hx hn hQ H1 locs1 ls (sm_R_set (M' := (s, sc_wI T a i.toNatClampNeg x)) hM rfl (fun b hb => ⟨sm_up_o _ _ hb, rfl, rfl⟩) hs h3 (by simp only [sm_ce, sm_ar, sm_kd, sc_wI, sm_up_s]) hP1 hD1) hS1 hL
theorem sc_aast {a n b : Nat} {i : Int32} (hs : s[a]? = some (.inl (.object "TwoFliers$Sign", n))) (h3 : 3 ≤ a) (hb : s[b]? = some (.inr 5)) (hb3 : 3 ≤ b) (hi : sm_ix i n = true) (hw : sc_wf s.length T) (hd : decode k.2.1 pc = .ok (.aastore, 1)) (h : ∀ T : sc_t, sc_wf s.length T → sm_S j k cs sl (pc + 1) lf st (s, T) (K T)) : sm_S j k cs sl pc lf (.ref b :: .int i :: .ref a :: st) (s, T) (sm_n (sc_wR T a i.toNatClampNeg (some b)) K) := by
  intro r hr nn g0 g p l e R s3 m args below meth c Q hC hx hn hQ H locs ls hM hS hL
  have hw2 : (sm_w g (s, T))[a - 3]? = some (g.1 a, .inl (g.2.2.2.2.2 (.object "TwoFliers$Sign"), n, .inr (.inr (.inr (.inr (fun i => (T.2.2 a i).map g.1)))))) := sm_w_at (M := (s, T)) hs h3
  refine va_astq (r := (RX6, TX6, 5)) hC.1 hC.2.1 hC.2.2.2.2.2.2.2.2.2.1.1 hM.2.1 hM.2.2 hS (a - 3) 6 (b - 3) 5 hw2 rfl (sm_w_at (M := (s, T)) hb hb3) rfl (sm_ix_in hi) hd (fun H1 locs1 hP1 hD1 hS1 => ?_)
  have hbl : b < s.length := (List.getElem?_eq_some_iff.mp hb).1
  exact h _ (sc_wR_wf (fun c hc => by cases hc; exact hbl) hw) r hr nn g0 g p l e R s3 m args below meth c Q hC hx hn hQ H1 locs1 ls (sm_R_set (M' := (s, sc_wR T a i.toNatClampNeg (some b))) hM rfl (fun x hx => ⟨rfl, rfl, sm_up_o _ _ hx⟩) hs h3 (by
    simp only [sm_ce, sm_ar, sm_kd, sc_wR, sm_up_s]
    congr 7
    funext z
    by_cases e : z = i.toNatClampNeg
    · subst e
      rw [sm_up_s, sm_up_s]
      rfl
    · rw [sm_up_o _ _ e, sm_up_o _ _ e]) hP1 hD1) hS1 hL
theorem sd_cast {M M' : sm_M} {st' : List Value} {cs' sl' : Nat} (hM : M = M') (hst : st = st') (hc : cs = cs') (hl : sl = sl') (h : sm_S j k cs' sl' pc lf st' M' o) : sm_S j k cs sl pc lf st M o := by
  subst hM; subst hst; subst hc; subst hl
  exact h
theorem sd_brf {c : Prop} [Decidable c] {M : sm_M} {o1 o2 : Option ρ} (hc : ¬ c) (h : sm_S j k cs sl pc lf st M (if c then o1 else o2)) : sm_S j k cs sl pc lf st M o2 := by
  rw [if_neg hc] at h
  exact h
theorem sd_brt {c : Prop} [Decidable c] {M : sm_M} {o1 o2 : Option ρ} (hc : c) (h : sm_S j k cs sl pc lf st M (if c then o1 else o2)) : sm_S j k cs sl pc lf st M o1 := by
  rw [if_pos hc] at h
  exact h
end
/-- references stay among the cells that there are -/
def sc_ow (n : Nat) (o : Option sc_t) : Prop := ∀ T2, o = some T2 → sc_wf n T2
section
variable {n m a i : Nat} {T : sc_t} {K : sc_t → Option sc_t} {o : Option sc_t}
theorem ow_z (hw : sc_wf n T) (h : ∀ T, sc_wf (n + 1) T → sc_ow m (K T)) : sc_ow m (sm_n (sc_z T a) K) := h _ (sc_z_wf hw)
theorem ow_zm {N : Nat} (hw : sc_wf n T) (h : ∀ T, sc_wf (n + (N + 1)) T → sc_ow m (K T)) : sc_ow m (sm_n (sc_zm T n N) K) := h _ (sc_zm_wf hw)
theorem ow_I {x : Int32} (hw : sc_wf n T) (h : ∀ T, sc_wf n T → sc_ow m (K T)) : sc_ow m (sm_n (sc_wI T a i x) K) := h (sc_wI T a i x) hw
theorem ow_L {x : Int64} (hw : sc_wf n T) (h : ∀ T, sc_wf n T → sc_ow m (K T)) : sc_ow m (sm_n (sc_wL T a i x) K) := h (sc_wL T a i x) hw
theorem ow_R {b : Nat} (hb : b < n) (hw : sc_wf n T) (h : ∀ T, sc_wf n T → sc_ow m (K T)) : sc_ow m (sm_n (sc_wR T a i (some b)) K) := h _ (sc_wR_wf (fun c hc => by cases hc; exact hb) hw)
theorem ow_N (hw : sc_wf n T) (h : ∀ T, sc_wf n T → sc_ow m (K T)) : sc_ow m (sm_n (sc_wR T a i none) K) := h _ (sc_wR_wf (fun c hc => by cases hc) hw)
theorem ow_if {c : Prop} [Decidable c] (h : sc_ow m o) : sc_ow m (if c then o else none) := fun T2 h2 => by
  split at h2
  · exact h T2 h2
  · cases h2
theorem ow_c (ho : sc_ow n o) (h : ∀ T, sc_wf n T → sc_ow m (K T)) : sc_ow m (o.bind K) := fun T2 h2 => by
  cases e : o with
  | none => rw [e] at h2; cases h2
  | some T1 => rw [e] at h2; exact h T1 (ho T1 e) T2 h2
theorem ow_r (hw : sc_wf n T) : sc_ow n (some T) := fun T2 h2 => by cases h2; exact hw
end
/-- the cells that there are, stage by stage -/
def sc_sh (n m : Nat) : sm_Sh := (sm_s0 n).take m
end
