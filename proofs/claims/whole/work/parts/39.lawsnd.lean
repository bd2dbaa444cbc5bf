set_option maxHeartbeats 4000000 in
set_option maxRecDepth 20000 in
theorem sL_law_1609 {N : Nat} (F : Nat) (c18 : Int32 → sm_t → Option (Int32 × sm_t)) (hc18 : ∀ (l3 : Int32) (S : sm_t), sm_S (sm_jI N) kL_law 67 4836 18 [some (.ref 2), some (.ref 3), some (.ref 52), some (.int l3)] [] (sm_m N S) (c18 l3 S)) (l3 : Int32) (S : sm_t) : sm_S (sm_jI N) kL_law 67 4836 1609 [some (.ref 2), some (.ref 3), some (.ref 52), some (.int l3)] [] (sm_m N S) (xL_law_1609 F N c18 l3 S) := by
  unfold xL_law_1609
  refine sd_aload_n (pc := 1609) dL_law_1609 rfl ?_
  refine sd_cVL (k2 := k7_digest) (As := []) (rest := []) (b := 3) (ci := 6) (pc := 1610) 200 (show sm_sq 3 = some (.inr 6) from rfl) (by decide) rfl dL_law_1610 mlL_200 (ms7_digest).1 (ms7_digest).2 (me7_digest) ⟨rfl, rfl⟩ ⟨Nat.le_of_ble_eq_true rfl, Nat.le_of_ble_eq_true rfl⟩ (Nat.le_of_ble_eq_true rfl) (Nat.le_of_ble_eq_true rfl) rfl (Nat.le_refl _) (Nat.le_refl _) rfl (s7_digest F S) (fun v1 S => ?_)
  refine sd_aload_n (pc := 1613) dL_law_1613 rfl ?_
  refine sd_cVL (k2 := k8_digest) (As := []) (rest := [.long v1]) (b := 52) (ci := 7) (pc := 1614) 203 (show sm_sq 52 = some (.inr 7) from rfl) (by decide) rfl dL_law_1614 mlL_203 (ms8_digest).1 (ms8_digest).2 (me8_digest) ⟨rfl, rfl⟩ ⟨Nat.le_of_ble_eq_true rfl, Nat.le_of_ble_eq_true rfl⟩ (Nat.le_of_ble_eq_true rfl) (Nat.le_of_ble_eq_true rfl) rfl (Nat.le_refl _) (Nat.le_refl _) rfl (s8_digest F S) (fun v2 S => ?_)
  refine sd_lc_eq (pc := 1617) 1623 dL_law_1617 dL_law_1618 (by decide) (fun _ => ?_) (fun _ => ?_)
  · refine sd_iinc (lf2 := [some (.ref 2), some (.ref 3), some (.ref 52), some (.int (l3 + 6))]) (pc := 1623) dL_law_1623 (Nat.le_of_ble_eq_true rfl) rfl ci_6 rfl ?_
    refine sd_goto (pc := 1626) 18 dL_law_1626 (by decide) ?_
    exact hc18 (l3 + 6) S
  · refine sd_iconst (pc := 1621) 0 dL_law_1621 ci_0 ?_
    exact sd_zret (pc := 1622) dL_law_1622 (by decide) (Nat.le_refl _) (Nat.le_refl _)
set_option maxHeartbeats 4000000 in
set_option maxRecDepth 20000 in
theorem sL_law_1586 {N : Nat} (F : Nat) (c18 : Int32 → sm_t → Option (Int32 × sm_t)) (hc18 : ∀ (l3 : Int32) (S : sm_t), sm_S (sm_jI N) kL_law 67 4836 18 [some (.ref 2), some (.ref 3), some (.ref 52), some (.int l3)] [] (sm_m N S) (c18 l3 S)) (l3 : Int32) (S : sm_t) : sm_S (sm_jI N) kL_law 67 4836 1586 [some (.ref 2), some (.ref 3), some (.ref 52), some (.int l3)] [] (sm_m N S) (xL_law_1586 F N c18 l3 S) := by
  unfold xL_law_1586
  refine sd_aload_n (pc := 1586) dL_law_1586 rfl ?_
  refine sd_aload_n (pc := 1587) dL_law_1587 rfl ?_
  refine sd_iload_n (pc := 1588) dL_law_1588 rfl ?_
  refine sd_iconst (pc := 1589) 1 dL_law_1589 ci_1 ?_
  refine sd_iadd (pc := 1590) dL_law_1590 ?_
  refine sd_sld (pc := 1591) dL_law_1591 (fun v1 => ?_)
  refine sd_cVI (k2 := k7_findings) (As := [.int v1]) (rest := []) (b := 3) (ci := 6) (pc := 1592) 196 (show sm_sq 3 = some (.inr 6) from rfl) (by decide) rfl dL_law_1592 mlL_196 (ms7_findings).1 (ms7_findings).2 (me7_findings) ⟨rfl, rfl⟩ ⟨Nat.le_of_ble_eq_true rfl, Nat.le_of_ble_eq_true rfl⟩ (Nat.le_of_ble_eq_true rfl) (Nat.le_of_ble_eq_true rfl) (Or.inl rfl) (Nat.le_refl _) (Nat.le_refl _) rfl (s7_findings F v1 S) (fun v2 S => ?_)
  refine sd_aload_n (pc := 1595) dL_law_1595 rfl ?_
  refine sd_aload_n (pc := 1596) dL_law_1596 rfl ?_
  refine sd_iload_n (pc := 1597) dL_law_1597 rfl ?_
  refine sd_iconst (pc := 1598) 1 dL_law_1598 ci_1 ?_
  refine sd_iadd (pc := 1599) dL_law_1599 ?_
  refine sd_sld (pc := 1600) dL_law_1600 (fun v3 => ?_)
  refine sd_cVI (k2 := k8_findings) (As := [.int v3]) (rest := [.int v2]) (b := 52) (ci := 7) (pc := 1601) 199 (show sm_sq 52 = some (.inr 7) from rfl) (by decide) rfl dL_law_1601 mlL_199 (ms8_findings).1 (ms8_findings).2 (me8_findings) ⟨rfl, rfl⟩ ⟨Nat.le_of_ble_eq_true rfl, Nat.le_of_ble_eq_true rfl⟩ (Nat.le_of_ble_eq_true rfl) (Nat.le_of_ble_eq_true rfl) (Or.inl rfl) (Nat.le_refl _) (Nat.le_refl _) rfl (s8_findings F v3 S) (fun v4 S => ?_)
  refine sd_ic_eq (pc := 1604) 1623 dL_law_1604 (by decide) (fun _ => ?_) (fun _ => ?_)
  · refine sd_iinc (lf2 := [some (.ref 2), some (.ref 3), some (.ref 52), some (.int (l3 + 6))]) (pc := 1623) dL_law_1623 (Nat.le_of_ble_eq_true rfl) rfl ci_6 rfl ?_
    refine sd_goto (pc := 1626) 18 dL_law_1626 (by decide) ?_
    exact hc18 (l3 + 6) S
  · refine sd_iconst (pc := 1607) 0 dL_law_1607 ci_0 ?_
    exact sd_zret (pc := 1608) dL_law_1608 (by decide) (Nat.le_refl _) (Nat.le_refl _)
set_option maxHeartbeats 4000000 in
set_option maxRecDepth 20000 in
theorem sL_law_1573 {N : Nat} (F : Nat) (c18 : Int32 → sm_t → Option (Int32 × sm_t)) (hc18 : ∀ (l3 : Int32) (S : sm_t), sm_S (sm_jI N) kL_law 67 4836 18 [some (.ref 2), some (.ref 3), some (.ref 52), some (.int l3)] [] (sm_m N S) (c18 l3 S)) (l3 : Int32) (S : sm_t) : sm_S (sm_jI N) kL_law 67 4836 1573 [some (.ref 2), some (.ref 3), some (.ref 52), some (.int l3)] [] (sm_m N S) (xL_law_1573 F N c18 l3 S) := by
  unfold xL_law_1573
  refine sd_aload_n (pc := 1573) dL_law_1573 rfl ?_
  refine sd_cVI (k2 := k7_finding) (As := []) (rest := []) (b := 3) (ci := 6) (pc := 1574) 192 (show sm_sq 3 = some (.inr 6) from rfl) (by decide) rfl dL_law_1574 mlL_192 (ms7_finding).1 (ms7_finding).2 (me7_finding) ⟨rfl, rfl⟩ ⟨Nat.le_of_ble_eq_true rfl, Nat.le_of_ble_eq_true rfl⟩ (Nat.le_of_ble_eq_true rfl) (Nat.le_of_ble_eq_true rfl) (Or.inl rfl) (Nat.le_refl _) (Nat.le_refl _) rfl (s7_finding F S) (fun v1 S => ?_)
  refine sd_aload_n (pc := 1577) dL_law_1577 rfl ?_
  refine sd_cVI (k2 := k8_finding) (As := []) (rest := [.int v1]) (b := 52) (ci := 7) (pc := 1578) 195 (show sm_sq 52 = some (.inr 7) from rfl) (by decide) rfl dL_law_1578 mlL_195 (ms8_finding).1 (ms8_finding).2 (me8_finding) ⟨rfl, rfl⟩ ⟨Nat.le_of_ble_eq_true rfl, Nat.le_of_ble_eq_true rfl⟩ (Nat.le_of_ble_eq_true rfl) (Nat.le_of_ble_eq_true rfl) (Or.inl rfl) (Nat.le_refl _) (Nat.le_refl _) rfl (s8_finding F S) (fun v2 S => ?_)
  refine sd_ic_eq (pc := 1581) 1623 dL_law_1581 (by decide) (fun _ => ?_) (fun _ => ?_)
  · refine sd_iinc (lf2 := [some (.ref 2), some (.ref 3), some (.ref 52), some (.int (l3 + 6))]) (pc := 1623) dL_law_1623 (Nat.le_of_ble_eq_true rfl) rfl ci_6 rfl ?_
    refine sd_goto (pc := 1626) 18 dL_law_1626 (by decide) ?_
    exact hc18 (l3 + 6) S
  · refine sd_iconst (pc := 1584) 0 dL_law_1584 ci_0 ?_
    exact sd_zret (pc := 1585) dL_law_1585 (by decide) (Nat.le_refl _) (Nat.le_refl _)
set_option maxHeartbeats 4000000 in
set_option maxRecDepth 20000 in
theorem sL_law_1550 {N : Nat} (F : Nat) (c18 : Int32 → sm_t → Option (Int32 × sm_t)) (hc18 : ∀ (l3 : Int32) (S : sm_t), sm_S (sm_jI N) kL_law 67 4836 18 [some (.ref 2), some (.ref 3), some (.ref 52), some (.int l3)] [] (sm_m N S) (c18 l3 S)) (l3 : Int32) (S : sm_t) : sm_S (sm_jI N) kL_law 67 4836 1550 [some (.ref 2), some (.ref 3), some (.ref 52), some (.int l3)] [] (sm_m N S) (xL_law_1550 F N c18 l3 S) := by
  unfold xL_law_1550
  refine sd_aload_n (pc := 1550) dL_law_1550 rfl ?_
  refine sd_aload_n (pc := 1551) dL_law_1551 rfl ?_
  refine sd_iload_n (pc := 1552) dL_law_1552 rfl ?_
  refine sd_iconst (pc := 1553) 1 dL_law_1553 ci_1 ?_
  refine sd_iadd (pc := 1554) dL_law_1554 ?_
  refine sd_sld (pc := 1555) dL_law_1555 (fun v1 => ?_)
  refine sd_cVI (k2 := k7_count) (As := [.int v1]) (rest := []) (b := 3) (ci := 6) (pc := 1556) 188 (show sm_sq 3 = some (.inr 6) from rfl) (by decide) rfl dL_law_1556 mlL_188 (ms7_count).1 (ms7_count).2 (me7_count) ⟨rfl, rfl⟩ ⟨Nat.le_of_ble_eq_true rfl, Nat.le_of_ble_eq_true rfl⟩ (Nat.le_of_ble_eq_true rfl) (Nat.le_of_ble_eq_true rfl) (Or.inl rfl) (Nat.le_refl _) (Nat.le_refl _) rfl (s7_count F v1 S) (fun v2 S => ?_)
  refine sd_aload_n (pc := 1559) dL_law_1559 rfl ?_
  refine sd_aload_n (pc := 1560) dL_law_1560 rfl ?_
  refine sd_iload_n (pc := 1561) dL_law_1561 rfl ?_
  refine sd_iconst (pc := 1562) 1 dL_law_1562 ci_1 ?_
  refine sd_iadd (pc := 1563) dL_law_1563 ?_
  refine sd_sld (pc := 1564) dL_law_1564 (fun v3 => ?_)
  refine sd_cVI (k2 := k8_count) (As := [.int v3]) (rest := [.int v2]) (b := 52) (ci := 7) (pc := 1565) 191 (show sm_sq 52 = some (.inr 7) from rfl) (by decide) rfl dL_law_1565 mlL_191 (ms8_count).1 (ms8_count).2 (me8_count) ⟨rfl, rfl⟩ ⟨Nat.le_of_ble_eq_true rfl, Nat.le_of_ble_eq_true rfl⟩ (Nat.le_of_ble_eq_true rfl) (Nat.le_of_ble_eq_true rfl) (Or.inl rfl) (Nat.le_refl _) (Nat.le_refl _) rfl (s8_count F v3 S) (fun v4 S => ?_)
  refine sd_ic_eq (pc := 1568) 1623 dL_law_1568 (by decide) (fun _ => ?_) (fun _ => ?_)
  · refine sd_iinc (lf2 := [some (.ref 2), some (.ref 3), some (.ref 52), some (.int (l3 + 6))]) (pc := 1623) dL_law_1623 (Nat.le_of_ble_eq_true rfl) rfl ci_6 rfl ?_
    refine sd_goto (pc := 1626) 18 dL_law_1626 (by decide) ?_
    exact hc18 (l3 + 6) S
  · refine sd_iconst (pc := 1571) 0 dL_law_1571 ci_0 ?_
    exact sd_zret (pc := 1572) dL_law_1572 (by decide) (Nat.le_refl _) (Nat.le_refl _)
set_option maxHeartbeats 4000000 in
set_option maxRecDepth 20000 in
theorem sL_law_1536 {N : Nat} (F : Nat) (c18 : Int32 → sm_t → Option (Int32 × sm_t)) (hc18 : ∀ (l3 : Int32) (S : sm_t), sm_S (sm_jI N) kL_law 67 4836 18 [some (.ref 2), some (.ref 3), some (.ref 52), some (.int l3)] [] (sm_m N S) (c18 l3 S)) (l3 : Int32) (S : sm_t) : sm_S (sm_jI N) kL_law 67 4836 1536 [some (.ref 2), some (.ref 3), some (.ref 52), some (.int l3)] [] (sm_m N S) (xL_law_1536 F N c18 l3 S) := by
  unfold xL_law_1536
  refine sd_aload_n (pc := 1536) dL_law_1536 rfl ?_
  refine sd_cVL (k2 := k7_lower) (As := []) (rest := []) (b := 3) (ci := 6) (pc := 1537) 184 (show sm_sq 3 = some (.inr 6) from rfl) (by decide) rfl dL_law_1537 mlL_184 (ms7_lower).1 (ms7_lower).2 (me7_lower) ⟨rfl, rfl⟩ ⟨Nat.le_of_ble_eq_true rfl, Nat.le_of_ble_eq_true rfl⟩ (Nat.le_of_ble_eq_true rfl) (Nat.le_of_ble_eq_true rfl) rfl (Nat.le_refl _) (Nat.le_refl _) rfl (s7_lower F S) (fun v1 S => ?_)
  refine sd_aload_n (pc := 1540) dL_law_1540 rfl ?_
  refine sd_cVL (k2 := k8_lower) (As := []) (rest := [.long v1]) (b := 52) (ci := 7) (pc := 1541) 187 (show sm_sq 52 = some (.inr 7) from rfl) (by decide) rfl dL_law_1541 mlL_187 (ms8_lower).1 (ms8_lower).2 (me8_lower) ⟨rfl, rfl⟩ ⟨Nat.le_of_ble_eq_true rfl, Nat.le_of_ble_eq_true rfl⟩ (Nat.le_of_ble_eq_true rfl) (Nat.le_of_ble_eq_true rfl) rfl (Nat.le_refl _) (Nat.le_refl _) rfl (s8_lower F S) (fun v2 S => ?_)
  refine sd_lc_eq (pc := 1544) 1623 dL_law_1544 dL_law_1545 (by decide) (fun _ => ?_) (fun _ => ?_)
  · refine sd_iinc (lf2 := [some (.ref 2), some (.ref 3), some (.ref 52), some (.int (l3 + 6))]) (pc := 1623) dL_law_1623 (Nat.le_of_ble_eq_true rfl) rfl ci_6 rfl ?_
    refine sd_goto (pc := 1626) 18 dL_law_1626 (by decide) ?_
    exact hc18 (l3 + 6) S
  · refine sd_iconst (pc := 1548) 0 dL_law_1548 ci_0 ?_
    exact sd_zret (pc := 1549) dL_law_1549 (by decide) (Nat.le_refl _) (Nat.le_refl _)
set_option maxHeartbeats 4000000 in
set_option maxRecDepth 20000 in
theorem sL_law_1522 {N : Nat} (F : Nat) (c18 : Int32 → sm_t → Option (Int32 × sm_t)) (hc18 : ∀ (l3 : Int32) (S : sm_t), sm_S (sm_jI N) kL_law 67 4836 18 [some (.ref 2), some (.ref 3), some (.ref 52), some (.int l3)] [] (sm_m N S) (c18 l3 S)) (l3 : Int32) (S : sm_t) : sm_S (sm_jI N) kL_law 67 4836 1522 [some (.ref 2), some (.ref 3), some (.ref 52), some (.int l3)] [] (sm_m N S) (xL_law_1522 F N c18 l3 S) := by
  unfold xL_law_1522
  refine sd_aload_n (pc := 1522) dL_law_1522 rfl ?_
  refine sd_cVL (k2 := k7_upper) (As := []) (rest := []) (b := 3) (ci := 6) (pc := 1523) 179 (show sm_sq 3 = some (.inr 6) from rfl) (by decide) rfl dL_law_1523 mlL_179 (ms7_upper).1 (ms7_upper).2 (me7_upper) ⟨rfl, rfl⟩ ⟨Nat.le_of_ble_eq_true rfl, Nat.le_of_ble_eq_true rfl⟩ (Nat.le_of_ble_eq_true rfl) (Nat.le_of_ble_eq_true rfl) rfl (Nat.le_refl _) (Nat.le_refl _) rfl (s7_upper F S) (fun v1 S => ?_)
  refine sd_aload_n (pc := 1526) dL_law_1526 rfl ?_
  refine sd_cVL (k2 := k8_upper) (As := []) (rest := [.long v1]) (b := 52) (ci := 7) (pc := 1527) 183 (show sm_sq 52 = some (.inr 7) from rfl) (by decide) rfl dL_law_1527 mlL_183 (ms8_upper).1 (ms8_upper).2 (me8_upper) ⟨rfl, rfl⟩ ⟨Nat.le_of_ble_eq_true rfl, Nat.le_of_ble_eq_true rfl⟩ (Nat.le_of_ble_eq_true rfl) (Nat.le_of_ble_eq_true rfl) rfl (Nat.le_refl _) (Nat.le_refl _) rfl (s8_upper F S) (fun v2 S => ?_)
  refine sd_lc_eq (pc := 1530) 1623 dL_law_1530 dL_law_1531 (by decide) (fun _ => ?_) (fun _ => ?_)
  · refine sd_iinc (lf2 := [some (.ref 2), some (.ref 3), some (.ref 52), some (.int (l3 + 6))]) (pc := 1623) dL_law_1623 (Nat.le_of_ble_eq_true rfl) rfl ci_6 rfl ?_
    refine sd_goto (pc := 1626) 18 dL_law_1626 (by decide) ?_
    exact hc18 (l3 + 6) S
  · refine sd_iconst (pc := 1534) 0 dL_law_1534 ci_0 ?_
    exact sd_zret (pc := 1535) dL_law_1535 (by decide) (Nat.le_refl _) (Nat.le_refl _)
set_option maxHeartbeats 4000000 in
set_option maxRecDepth 20000 in
theorem sL_law_1509 {N : Nat} (F : Nat) (c18 : Int32 → sm_t → Option (Int32 × sm_t)) (hc18 : ∀ (l3 : Int32) (S : sm_t), sm_S (sm_jI N) kL_law 67 4836 18 [some (.ref 2), some (.ref 3), some (.ref 52), some (.int l3)] [] (sm_m N S) (c18 l3 S)) (l3 : Int32) (S : sm_t) : sm_S (sm_jI N) kL_law 67 4836 1509 [some (.ref 2), some (.ref 3), some (.ref 52), some (.int l3)] [] (sm_m N S) (xL_law_1509 F N c18 l3 S) := by
  unfold xL_law_1509
  refine sd_aload_n (pc := 1509) dL_law_1509 rfl ?_
  refine sd_cVI (k2 := k7_asked) (As := []) (rest := []) (b := 3) (ci := 6) (pc := 1510) 174 (show sm_sq 3 = some (.inr 6) from rfl) (by decide) rfl dL_law_1510 mlL_174 (ms7_asked).1 (ms7_asked).2 (me7_asked) ⟨rfl, rfl⟩ ⟨Nat.le_of_ble_eq_true rfl, Nat.le_of_ble_eq_true rfl⟩ (Nat.le_of_ble_eq_true rfl) (Nat.le_of_ble_eq_true rfl) (Or.inl rfl) (Nat.le_refl _) (Nat.le_refl _) rfl (s7_asked F S) (fun v1 S => ?_)
  refine sd_aload_n (pc := 1513) dL_law_1513 rfl ?_
  refine sd_cVI (k2 := k8_asked) (As := []) (rest := [.int v1]) (b := 52) (ci := 7) (pc := 1514) 178 (show sm_sq 52 = some (.inr 7) from rfl) (by decide) rfl dL_law_1514 mlL_178 (ms8_asked).1 (ms8_asked).2 (me8_asked) ⟨rfl, rfl⟩ ⟨Nat.le_of_ble_eq_true rfl, Nat.le_of_ble_eq_true rfl⟩ (Nat.le_of_ble_eq_true rfl) (Nat.le_of_ble_eq_true rfl) (Or.inl rfl) (Nat.le_refl _) (Nat.le_refl _) rfl (s8_asked F S) (fun v2 S => ?_)
  refine sd_ic_eq (pc := 1517) 1623 dL_law_1517 (by decide) (fun _ => ?_) (fun _ => ?_)
  · refine sd_iinc (lf2 := [some (.ref 2), some (.ref 3), some (.ref 52), some (.int (l3 + 6))]) (pc := 1623) dL_law_1623 (Nat.le_of_ble_eq_true rfl) rfl ci_6 rfl ?_
    refine sd_goto (pc := 1626) 18 dL_law_1626 (by decide) ?_
    exact hc18 (l3 + 6) S
  · refine sd_iconst (pc := 1520) 0 dL_law_1520 ci_0 ?_
    exact sd_zret (pc := 1521) dL_law_1521 (by decide) (Nat.le_refl _) (Nat.le_refl _)
set_option maxHeartbeats 4000000 in
set_option maxRecDepth 20000 in
theorem sL_law_1486 {N : Nat} (F : Nat) (c18 : Int32 → sm_t → Option (Int32 × sm_t)) (hc18 : ∀ (l3 : Int32) (S : sm_t), sm_S (sm_jI N) kL_law 67 4836 18 [some (.ref 2), some (.ref 3), some (.ref 52), some (.int l3)] [] (sm_m N S) (c18 l3 S)) (l3 : Int32) (S : sm_t) : sm_S (sm_jI N) kL_law 67 4836 1486 [some (.ref 2), some (.ref 3), some (.ref 52), some (.int l3)] [] (sm_m N S) (xL_law_1486 F N c18 l3 S) := by
  unfold xL_law_1486
  refine sd_aload_n (pc := 1486) dL_law_1486 rfl ?_
  refine sd_aload_n (pc := 1487) dL_law_1487 rfl ?_
  refine sd_iload_n (pc := 1488) dL_law_1488 rfl ?_
  refine sd_iconst (pc := 1489) 1 dL_law_1489 ci_1 ?_
  refine sd_iadd (pc := 1490) dL_law_1490 ?_
  refine sd_sld (pc := 1491) dL_law_1491 (fun v1 => ?_)
  refine sd_cVI (k2 := k7_on) (As := [.int v1]) (rest := []) (b := 3) (ci := 6) (pc := 1492) 170 (show sm_sq 3 = some (.inr 6) from rfl) (by decide) rfl dL_law_1492 mlL_170 (ms7_on).1 (ms7_on).2 (me7_on) ⟨rfl, rfl⟩ ⟨Nat.le_of_ble_eq_true rfl, Nat.le_of_ble_eq_true rfl⟩ (Nat.le_of_ble_eq_true rfl) (Nat.le_of_ble_eq_true rfl) (Or.inl rfl) (Nat.le_refl _) (Nat.le_refl _) rfl (s7_on F v1 S) (fun v2 S => ?_)
  refine sd_aload_n (pc := 1495) dL_law_1495 rfl ?_
  refine sd_aload_n (pc := 1496) dL_law_1496 rfl ?_
  refine sd_iload_n (pc := 1497) dL_law_1497 rfl ?_
  refine sd_iconst (pc := 1498) 1 dL_law_1498 ci_1 ?_
  refine sd_iadd (pc := 1499) dL_law_1499 ?_
  refine sd_sld (pc := 1500) dL_law_1500 (fun v3 => ?_)
  refine sd_cVI (k2 := k8_on) (As := [.int v3]) (rest := [.int v2]) (b := 52) (ci := 7) (pc := 1501) 173 (show sm_sq 52 = some (.inr 7) from rfl) (by decide) rfl dL_law_1501 mlL_173 (ms8_on).1 (ms8_on).2 (me8_on) ⟨rfl, rfl⟩ ⟨Nat.le_of_ble_eq_true rfl, Nat.le_of_ble_eq_true rfl⟩ (Nat.le_of_ble_eq_true rfl) (Nat.le_of_ble_eq_true rfl) (Or.inl rfl) (Nat.le_refl _) (Nat.le_refl _) rfl (s8_on F v3 S) (fun v4 S => ?_)
  refine sd_ic_eq (pc := 1504) 1623 dL_law_1504 (by decide) (fun _ => ?_) (fun _ => ?_)
  · refine sd_iinc (lf2 := [some (.ref 2), some (.ref 3), some (.ref 52), some (.int (l3 + 6))]) (pc := 1623) dL_law_1623 (Nat.le_of_ble_eq_true rfl) rfl ci_6 rfl ?_
    refine sd_goto (pc := 1626) 18 dL_law_1626 (by decide) ?_
    exact hc18 (l3 + 6) S
  · refine sd_iconst (pc := 1507) 0 dL_law_1507 ci_0 ?_
    exact sd_zret (pc := 1508) dL_law_1508 (by decide) (Nat.le_refl _) (Nat.le_refl _)
set_option maxHeartbeats 4000000 in
set_option maxRecDepth 20000 in
theorem sL_law_1463 {N : Nat} (F : Nat) (c18 : Int32 → sm_t → Option (Int32 × sm_t)) (hc18 : ∀ (l3 : Int32) (S : sm_t), sm_S (sm_jI N) kL_law 67 4836 18 [some (.ref 2), some (.ref 3), some (.ref 52), some (.int l3)] [] (sm_m N S) (c18 l3 S)) (l3 : Int32) (S : sm_t) : sm_S (sm_jI N) kL_law 67 4836 1463 [some (.ref 2), some (.ref 3), some (.ref 52), some (.int l3)] [] (sm_m N S) (xL_law_1463 F N c18 l3 S) := by
  unfold xL_law_1463
  refine sd_aload_n (pc := 1463) dL_law_1463 rfl ?_
  refine sd_aload_n (pc := 1464) dL_law_1464 rfl ?_
  refine sd_iload_n (pc := 1465) dL_law_1465 rfl ?_
  refine sd_iconst (pc := 1466) 1 dL_law_1466 ci_1 ?_
  refine sd_iadd (pc := 1467) dL_law_1467 ?_
  refine sd_sld (pc := 1468) dL_law_1468 (fun v1 => ?_)
  refine sd_cVI (k2 := k7_image) (As := [.int v1]) (rest := []) (b := 3) (ci := 6) (pc := 1469) 166 (show sm_sq 3 = some (.inr 6) from rfl) (by decide) rfl dL_law_1469 mlL_166 (ms7_image).1 (ms7_image).2 (me7_image) ⟨rfl, rfl⟩ ⟨Nat.le_of_ble_eq_true rfl, Nat.le_of_ble_eq_true rfl⟩ (Nat.le_of_ble_eq_true rfl) (Nat.le_of_ble_eq_true rfl) (Or.inl rfl) (Nat.le_refl _) (Nat.le_refl _) rfl (s7_image F v1 S) (fun v2 S => ?_)
  refine sd_aload_n (pc := 1472) dL_law_1472 rfl ?_
  refine sd_aload_n (pc := 1473) dL_law_1473 rfl ?_
  refine sd_iload_n (pc := 1474) dL_law_1474 rfl ?_
  refine sd_iconst (pc := 1475) 1 dL_law_1475 ci_1 ?_
  refine sd_iadd (pc := 1476) dL_law_1476 ?_
  refine sd_sld (pc := 1477) dL_law_1477 (fun v3 => ?_)
  refine sd_cVI (k2 := k8_image) (As := [.int v3]) (rest := [.int v2]) (b := 52) (ci := 7) (pc := 1478) 169 (show sm_sq 52 = some (.inr 7) from rfl) (by decide) rfl dL_law_1478 mlL_169 (ms8_image).1 (ms8_image).2 (me8_image) ⟨rfl, rfl⟩ ⟨Nat.le_of_ble_eq_true rfl, Nat.le_of_ble_eq_true rfl⟩ (Nat.le_of_ble_eq_true rfl) (Nat.le_of_ble_eq_true rfl) (Or.inl rfl) (Nat.le_refl _) (Nat.le_refl _) rfl (s8_image F v3 S) (fun v4 S => ?_)
  refine sd_ic_eq (pc := 1481) 1623 dL_law_1481 (by decide) (fun _ => ?_) (fun _ => ?_)
  · refine sd_iinc (lf2 := [some (.ref 2), some (.ref 3), some (.ref 52), some (.int (l3 + 6))]) (pc := 1623) dL_law_1623 (Nat.le_of_ble_eq_true rfl) rfl ci_6 rfl ?_
    refine sd_goto (pc := 1626) 18 dL_law_1626 (by decide) ?_
    exact hc18 (l3 + 6) S
  · refine sd_iconst (pc := 1484) 0 dL_law_1484 ci_0 ?_
    exact sd_zret (pc := 1485) dL_law_1485 (by decide) (Nat.le_refl _) (Nat.le_refl _)
set_option maxHeartbeats 4000000 in
set_option maxRecDepth 20000 in
theorem sL_law_1430 {N : Nat} (F : Nat) (c18 : Int32 → sm_t → Option (Int32 × sm_t)) (hc18 : ∀ (l3 : Int32) (S : sm_t), sm_S (sm_jI N) kL_law 67 4836 18 [some (.ref 2), some (.ref 3), some (.ref 52), some (.int l3)] [] (sm_m N S) (c18 l3 S)) (l3 : Int32) (S : sm_t) : sm_S (sm_jI N) kL_law 67 4836 1430 [some (.ref 2), some (.ref 3), some (.ref 52), some (.int l3)] [] (sm_m N S) (xL_law_1430 F N c18 l3 S) := by
  unfold xL_law_1430
  refine sd_aload_n (pc := 1430) dL_law_1430 rfl ?_
  refine sd_aload_n (pc := 1431) dL_law_1431 rfl ?_
  refine sd_iload_n (pc := 1432) dL_law_1432 rfl ?_
  refine sd_iconst (pc := 1433) 1 dL_law_1433 ci_1 ?_
  refine sd_iadd (pc := 1434) dL_law_1434 ?_
  refine sd_sld (pc := 1435) dL_law_1435 (fun v1 => ?_)
  refine sd_aload_n (pc := 1436) dL_law_1436 rfl ?_
  refine sd_iload_n (pc := 1437) dL_law_1437 rfl ?_
  refine sd_iconst (pc := 1438) 2 dL_law_1438 ci_2 ?_
  refine sd_iadd (pc := 1439) dL_law_1439 ?_
  refine sd_sld (pc := 1440) dL_law_1440 (fun v2 => ?_)
  refine sd_cVI (k2 := k7_draw) (As := [.int v1, .int v2]) (rest := []) (b := 3) (ci := 6) (pc := 1441) 162 (show sm_sq 3 = some (.inr 6) from rfl) (by decide) rfl dL_law_1441 mlL_162 (ms7_draw).1 (ms7_draw).2 (me7_draw) ⟨rfl, rfl⟩ ⟨Nat.le_of_ble_eq_true rfl, Nat.le_of_ble_eq_true rfl⟩ (Nat.le_of_ble_eq_true rfl) (Nat.le_of_ble_eq_true rfl) (Or.inl rfl) (Nat.le_refl _) (Nat.le_refl _) rfl (s7_draw F v1 v2 S) (fun v3 S => ?_)
  refine sd_aload_n (pc := 1444) dL_law_1444 rfl ?_
  refine sd_aload_n (pc := 1445) dL_law_1445 rfl ?_
  refine sd_iload_n (pc := 1446) dL_law_1446 rfl ?_
  refine sd_iconst (pc := 1447) 1 dL_law_1447 ci_1 ?_
  refine sd_iadd (pc := 1448) dL_law_1448 ?_
  refine sd_sld (pc := 1449) dL_law_1449 (fun v4 => ?_)
  refine sd_aload_n (pc := 1450) dL_law_1450 rfl ?_
  refine sd_iload_n (pc := 1451) dL_law_1451 rfl ?_
  refine sd_iconst (pc := 1452) 2 dL_law_1452 ci_2 ?_
  refine sd_iadd (pc := 1453) dL_law_1453 ?_
  refine sd_sld (pc := 1454) dL_law_1454 (fun v5 => ?_)
  refine sd_cVI (k2 := k8_draw) (As := [.int v4, .int v5]) (rest := [.int v3]) (b := 52) (ci := 7) (pc := 1455) 165 (show sm_sq 52 = some (.inr 7) from rfl) (by decide) rfl dL_law_1455 mlL_165 (ms8_draw).1 (ms8_draw).2 (me8_draw) ⟨rfl, rfl⟩ ⟨Nat.le_of_ble_eq_true rfl, Nat.le_of_ble_eq_true rfl⟩ (Nat.le_of_ble_eq_true rfl) (Nat.le_of_ble_eq_true rfl) (Or.inl rfl) (Nat.le_refl _) (Nat.le_refl _) rfl (s8_draw F v4 v5 S) (fun v6 S => ?_)
  refine sd_ic_eq (pc := 1458) 1623 dL_law_1458 (by decide) (fun _ => ?_) (fun _ => ?_)
  · refine sd_iinc (lf2 := [some (.ref 2), some (.ref 3), some (.ref 52), some (.int (l3 + 6))]) (pc := 1623) dL_law_1623 (Nat.le_of_ble_eq_true rfl) rfl ci_6 rfl ?_
    refine sd_goto (pc := 1626) 18 dL_law_1626 (by decide) ?_
    exact hc18 (l3 + 6) S
  · refine sd_iconst (pc := 1461) 0 dL_law_1461 ci_0 ?_
    exact sd_zret (pc := 1462) dL_law_1462 (by decide) (Nat.le_refl _) (Nat.le_refl _)
set_option maxHeartbeats 4000000 in
set_option maxRecDepth 20000 in
theorem sL_law_1397 {N : Nat} (F : Nat) (c18 : Int32 → sm_t → Option (Int32 × sm_t)) (hc18 : ∀ (l3 : Int32) (S : sm_t), sm_S (sm_jI N) kL_law 67 4836 18 [some (.ref 2), some (.ref 3), some (.ref 52), some (.int l3)] [] (sm_m N S) (c18 l3 S)) (l3 : Int32) (S : sm_t) : sm_S (sm_jI N) kL_law 67 4836 1397 [some (.ref 2), some (.ref 3), some (.ref 52), some (.int l3)] [] (sm_m N S) (xL_law_1397 F N c18 l3 S) := by
  unfold xL_law_1397
  refine sd_aload_n (pc := 1397) dL_law_1397 rfl ?_
  refine sd_aload_n (pc := 1398) dL_law_1398 rfl ?_
  refine sd_iload_n (pc := 1399) dL_law_1399 rfl ?_
  refine sd_iconst (pc := 1400) 1 dL_law_1400 ci_1 ?_
  refine sd_iadd (pc := 1401) dL_law_1401 ?_
  refine sd_sld (pc := 1402) dL_law_1402 (fun v1 => ?_)
  refine sd_aload_n (pc := 1403) dL_law_1403 rfl ?_
  refine sd_iload_n (pc := 1404) dL_law_1404 rfl ?_
  refine sd_iconst (pc := 1405) 2 dL_law_1405 ci_2 ?_
  refine sd_iadd (pc := 1406) dL_law_1406 ?_
  refine sd_sld (pc := 1407) dL_law_1407 (fun v2 => ?_)
  refine sd_cVI (k2 := k7_brought) (As := [.int v1, .int v2]) (rest := []) (b := 3) (ci := 6) (pc := 1408) 158 (show sm_sq 3 = some (.inr 6) from rfl) (by decide) rfl dL_law_1408 mlL_158 (ms7_brought).1 (ms7_brought).2 (me7_brought) ⟨rfl, rfl⟩ ⟨Nat.le_of_ble_eq_true rfl, Nat.le_of_ble_eq_true rfl⟩ (Nat.le_of_ble_eq_true rfl) (Nat.le_of_ble_eq_true rfl) (Or.inl rfl) (Nat.le_refl _) (Nat.le_refl _) rfl (s7_brought F v1 v2 S) (fun v3 S => ?_)
  refine sd_aload_n (pc := 1411) dL_law_1411 rfl ?_
  refine sd_aload_n (pc := 1412) dL_law_1412 rfl ?_
  refine sd_iload_n (pc := 1413) dL_law_1413 rfl ?_
  refine sd_iconst (pc := 1414) 1 dL_law_1414 ci_1 ?_
  refine sd_iadd (pc := 1415) dL_law_1415 ?_
  refine sd_sld (pc := 1416) dL_law_1416 (fun v4 => ?_)
  refine sd_aload_n (pc := 1417) dL_law_1417 rfl ?_
  refine sd_iload_n (pc := 1418) dL_law_1418 rfl ?_
  refine sd_iconst (pc := 1419) 2 dL_law_1419 ci_2 ?_
  refine sd_iadd (pc := 1420) dL_law_1420 ?_
  refine sd_sld (pc := 1421) dL_law_1421 (fun v5 => ?_)
  refine sd_cVI (k2 := k8_brought) (As := [.int v4, .int v5]) (rest := [.int v3]) (b := 52) (ci := 7) (pc := 1422) 161 (show sm_sq 52 = some (.inr 7) from rfl) (by decide) rfl dL_law_1422 mlL_161 (ms8_brought).1 (ms8_brought).2 (me8_brought) ⟨rfl, rfl⟩ ⟨Nat.le_of_ble_eq_true rfl, Nat.le_of_ble_eq_true rfl⟩ (Nat.le_of_ble_eq_true rfl) (Nat.le_of_ble_eq_true rfl) (Or.inl rfl) (Nat.le_refl _) (Nat.le_refl _) rfl (s8_brought F v4 v5 S) (fun v6 S => ?_)
  refine sd_ic_eq (pc := 1425) 1623 dL_law_1425 (by decide) (fun _ => ?_) (fun _ => ?_)
  · refine sd_iinc (lf2 := [some (.ref 2), some (.ref 3), some (.ref 52), some (.int (l3 + 6))]) (pc := 1623) dL_law_1623 (Nat.le_of_ble_eq_true rfl) rfl ci_6 rfl ?_
    refine sd_goto (pc := 1626) 18 dL_law_1626 (by decide) ?_
    exact hc18 (l3 + 6) S
  · refine sd_iconst (pc := 1428) 0 dL_law_1428 ci_0 ?_
    exact sd_zret (pc := 1429) dL_law_1429 (by decide) (Nat.le_refl _) (Nat.le_refl _)
set_option maxHeartbeats 4000000 in
set_option maxRecDepth 20000 in
theorem sL_law_1344 {N : Nat} (F : Nat) (c18 : Int32 → sm_t → Option (Int32 × sm_t)) (hc18 : ∀ (l3 : Int32) (S : sm_t), sm_S (sm_jI N) kL_law 67 4836 18 [some (.ref 2), some (.ref 3), some (.ref 52), some (.int l3)] [] (sm_m N S) (c18 l3 S)) (l3 : Int32) (S : sm_t) : sm_S (sm_jI N) kL_law 67 4836 1344 [some (.ref 2), some (.ref 3), some (.ref 52), some (.int l3)] [] (sm_m N S) (xL_law_1344 F N c18 l3 S) := by
  unfold xL_law_1344
  refine sd_aload_n (pc := 1344) dL_law_1344 rfl ?_
  refine sd_aload_n (pc := 1345) dL_law_1345 rfl ?_
  refine sd_iload_n (pc := 1346) dL_law_1346 rfl ?_
  refine sd_iconst (pc := 1347) 1 dL_law_1347 ci_1 ?_
  refine sd_iadd (pc := 1348) dL_law_1348 ?_
  refine sd_sld (pc := 1349) dL_law_1349 (fun v1 => ?_)
  refine sd_aload_n (pc := 1350) dL_law_1350 rfl ?_
  refine sd_iload_n (pc := 1351) dL_law_1351 rfl ?_
  refine sd_iconst (pc := 1352) 2 dL_law_1352 ci_2 ?_
  refine sd_iadd (pc := 1353) dL_law_1353 ?_
  refine sd_sld (pc := 1354) dL_law_1354 (fun v2 => ?_)
  refine sd_aload_n (pc := 1355) dL_law_1355 rfl ?_
  refine sd_iload_n (pc := 1356) dL_law_1356 rfl ?_
  refine sd_iconst (pc := 1357) 3 dL_law_1357 ci_3 ?_
  refine sd_iadd (pc := 1358) dL_law_1358 ?_
  refine sd_sld (pc := 1359) dL_law_1359 (fun v3 => ?_)
  refine sd_aload_n (pc := 1360) dL_law_1360 rfl ?_
  refine sd_iload_n (pc := 1361) dL_law_1361 rfl ?_
  refine sd_iconst (pc := 1362) 4 dL_law_1362 ci_4 ?_
  refine sd_iadd (pc := 1363) dL_law_1363 ?_
  refine sd_sld (pc := 1364) dL_law_1364 (fun v4 => ?_)
  refine sd_cVI (k2 := k7_drag) (As := [.int v1, .int v2, .int v3, .int v4]) (rest := []) (b := 3) (ci := 6) (pc := 1365) 154 (show sm_sq 3 = some (.inr 6) from rfl) (by decide) rfl dL_law_1365 mlL_154 (ms7_drag).1 (ms7_drag).2 (me7_drag) ⟨rfl, rfl⟩ ⟨Nat.le_of_ble_eq_true rfl, Nat.le_of_ble_eq_true rfl⟩ (Nat.le_of_ble_eq_true rfl) (Nat.le_of_ble_eq_true rfl) (Or.inl rfl) (Nat.le_refl _) (Nat.le_refl _) rfl (s7_drag F v1 v2 v3 v4 S) (fun v5 S => ?_)
  refine sd_aload_n (pc := 1368) dL_law_1368 rfl ?_
  refine sd_aload_n (pc := 1369) dL_law_1369 rfl ?_
  refine sd_iload_n (pc := 1370) dL_law_1370 rfl ?_
  refine sd_iconst (pc := 1371) 1 dL_law_1371 ci_1 ?_
  refine sd_iadd (pc := 1372) dL_law_1372 ?_
  refine sd_sld (pc := 1373) dL_law_1373 (fun v6 => ?_)
  refine sd_aload_n (pc := 1374) dL_law_1374 rfl ?_
  refine sd_iload_n (pc := 1375) dL_law_1375 rfl ?_
  refine sd_iconst (pc := 1376) 2 dL_law_1376 ci_2 ?_
  refine sd_iadd (pc := 1377) dL_law_1377 ?_
  refine sd_sld (pc := 1378) dL_law_1378 (fun v7 => ?_)
  refine sd_aload_n (pc := 1379) dL_law_1379 rfl ?_
  refine sd_iload_n (pc := 1380) dL_law_1380 rfl ?_
  refine sd_iconst (pc := 1381) 3 dL_law_1381 ci_3 ?_
  refine sd_iadd (pc := 1382) dL_law_1382 ?_
  refine sd_sld (pc := 1383) dL_law_1383 (fun v8 => ?_)
  refine sd_aload_n (pc := 1384) dL_law_1384 rfl ?_
  refine sd_iload_n (pc := 1385) dL_law_1385 rfl ?_
  refine sd_iconst (pc := 1386) 4 dL_law_1386 ci_4 ?_
  refine sd_iadd (pc := 1387) dL_law_1387 ?_
  refine sd_sld (pc := 1388) dL_law_1388 (fun v9 => ?_)
  refine sd_cVI (k2 := k8_drag) (As := [.int v6, .int v7, .int v8, .int v9]) (rest := [.int v5]) (b := 52) (ci := 7) (pc := 1389) 157 (show sm_sq 52 = some (.inr 7) from rfl) (by decide) rfl dL_law_1389 mlL_157 (ms8_drag).1 (ms8_drag).2 (me8_drag) ⟨rfl, rfl⟩ ⟨Nat.le_of_ble_eq_true rfl, Nat.le_of_ble_eq_true rfl⟩ (Nat.le_of_ble_eq_true rfl) (Nat.le_of_ble_eq_true rfl) (Or.inl rfl) (Nat.le_refl _) (Nat.le_refl _) rfl (s8_drag F v6 v7 v8 v9 S) (fun v10 S => ?_)
  refine sd_ic_eq (pc := 1392) 1623 dL_law_1392 (by decide) (fun _ => ?_) (fun _ => ?_)
  · refine sd_iinc (lf2 := [some (.ref 2), some (.ref 3), some (.ref 52), some (.int (l3 + 6))]) (pc := 1623) dL_law_1623 (Nat.le_of_ble_eq_true rfl) rfl ci_6 rfl ?_
    refine sd_goto (pc := 1626) 18 dL_law_1626 (by decide) ?_
    exact hc18 (l3 + 6) S
  · refine sd_iconst (pc := 1395) 0 dL_law_1395 ci_0 ?_
    exact sd_zret (pc := 1396) dL_law_1396 (by decide) (Nat.le_refl _) (Nat.le_refl _)
set_option maxHeartbeats 4000000 in
set_option maxRecDepth 20000 in
theorem sL_law_1301 {N : Nat} (F : Nat) (c18 : Int32 → sm_t → Option (Int32 × sm_t)) (hc18 : ∀ (l3 : Int32) (S : sm_t), sm_S (sm_jI N) kL_law 67 4836 18 [some (.ref 2), some (.ref 3), some (.ref 52), some (.int l3)] [] (sm_m N S) (c18 l3 S)) (l3 : Int32) (S : sm_t) : sm_S (sm_jI N) kL_law 67 4836 1301 [some (.ref 2), some (.ref 3), some (.ref 52), some (.int l3)] [] (sm_m N S) (xL_law_1301 F N c18 l3 S) := by
  unfold xL_law_1301
  refine sd_aload_n (pc := 1301) dL_law_1301 rfl ?_
  refine sd_aload_n (pc := 1302) dL_law_1302 rfl ?_
  refine sd_iload_n (pc := 1303) dL_law_1303 rfl ?_
  refine sd_iconst (pc := 1304) 1 dL_law_1304 ci_1 ?_
  refine sd_iadd (pc := 1305) dL_law_1305 ?_
  refine sd_sld (pc := 1306) dL_law_1306 (fun v1 => ?_)
  refine sd_aload_n (pc := 1307) dL_law_1307 rfl ?_
  refine sd_iload_n (pc := 1308) dL_law_1308 rfl ?_
  refine sd_iconst (pc := 1309) 2 dL_law_1309 ci_2 ?_
  refine sd_iadd (pc := 1310) dL_law_1310 ?_
  refine sd_sld (pc := 1311) dL_law_1311 (fun v2 => ?_)
  refine sd_aload_n (pc := 1312) dL_law_1312 rfl ?_
  refine sd_iload_n (pc := 1313) dL_law_1313 rfl ?_
  refine sd_iconst (pc := 1314) 3 dL_law_1314 ci_3 ?_
  refine sd_iadd (pc := 1315) dL_law_1315 ?_
  refine sd_sld (pc := 1316) dL_law_1316 (fun v3 => ?_)
  refine sd_cVI (k2 := k7_line) (As := [.int v1, .int v2, .int v3]) (rest := []) (b := 3) (ci := 6) (pc := 1317) 150 (show sm_sq 3 = some (.inr 6) from rfl) (by decide) rfl dL_law_1317 mlL_150 (ms7_line).1 (ms7_line).2 (me7_line) ⟨rfl, rfl⟩ ⟨Nat.le_of_ble_eq_true rfl, Nat.le_of_ble_eq_true rfl⟩ (Nat.le_of_ble_eq_true rfl) (Nat.le_of_ble_eq_true rfl) (Or.inl rfl) (Nat.le_refl _) (Nat.le_refl _) rfl (s7_line F v1 v2 v3 S) (fun v4 S => ?_)
  refine sd_aload_n (pc := 1320) dL_law_1320 rfl ?_
  refine sd_aload_n (pc := 1321) dL_law_1321 rfl ?_
  refine sd_iload_n (pc := 1322) dL_law_1322 rfl ?_
  refine sd_iconst (pc := 1323) 1 dL_law_1323 ci_1 ?_
  refine sd_iadd (pc := 1324) dL_law_1324 ?_
  refine sd_sld (pc := 1325) dL_law_1325 (fun v5 => ?_)
  refine sd_aload_n (pc := 1326) dL_law_1326 rfl ?_
  refine sd_iload_n (pc := 1327) dL_law_1327 rfl ?_
  refine sd_iconst (pc := 1328) 2 dL_law_1328 ci_2 ?_
  refine sd_iadd (pc := 1329) dL_law_1329 ?_
  refine sd_sld (pc := 1330) dL_law_1330 (fun v6 => ?_)
  refine sd_aload_n (pc := 1331) dL_law_1331 rfl ?_
  refine sd_iload_n (pc := 1332) dL_law_1332 rfl ?_
  refine sd_iconst (pc := 1333) 3 dL_law_1333 ci_3 ?_
  refine sd_iadd (pc := 1334) dL_law_1334 ?_
  refine sd_sld (pc := 1335) dL_law_1335 (fun v7 => ?_)
  refine sd_cVI (k2 := k8_line) (As := [.int v5, .int v6, .int v7]) (rest := [.int v4]) (b := 52) (ci := 7) (pc := 1336) 153 (show sm_sq 52 = some (.inr 7) from rfl) (by decide) rfl dL_law_1336 mlL_153 (ms8_line).1 (ms8_line).2 (me8_line) ⟨rfl, rfl⟩ ⟨Nat.le_of_ble_eq_true rfl, Nat.le_of_ble_eq_true rfl⟩ (Nat.le_of_ble_eq_true rfl) (Nat.le_of_ble_eq_true rfl) (Or.inl rfl) (Nat.le_refl _) (Nat.le_refl _) rfl (s8_line F v5 v6 v7 S) (fun v8 S => ?_)
  refine sd_ic_eq (pc := 1339) 1623 dL_law_1339 (by decide) (fun _ => ?_) (fun _ => ?_)
  · refine sd_iinc (lf2 := [some (.ref 2), some (.ref 3), some (.ref 52), some (.int (l3 + 6))]) (pc := 1623) dL_law_1623 (Nat.le_of_ble_eq_true rfl) rfl ci_6 rfl ?_
    refine sd_goto (pc := 1626) 18 dL_law_1626 (by decide) ?_
    exact hc18 (l3 + 6) S
  · refine sd_iconst (pc := 1342) 0 dL_law_1342 ci_0 ?_
    exact sd_zret (pc := 1343) dL_law_1343 (by decide) (Nat.le_refl _) (Nat.le_refl _)
set_option maxHeartbeats 4000000 in
set_option maxRecDepth 20000 in
theorem sL_law_1268 {N : Nat} (F : Nat) (c18 : Int32 → sm_t → Option (Int32 × sm_t)) (hc18 : ∀ (l3 : Int32) (S : sm_t), sm_S (sm_jI N) kL_law 67 4836 18 [some (.ref 2), some (.ref 3), some (.ref 52), some (.int l3)] [] (sm_m N S) (c18 l3 S)) (l3 : Int32) (S : sm_t) : sm_S (sm_jI N) kL_law 67 4836 1268 [some (.ref 2), some (.ref 3), some (.ref 52), some (.int l3)] [] (sm_m N S) (xL_law_1268 F N c18 l3 S) := by
  unfold xL_law_1268
  refine sd_aload_n (pc := 1268) dL_law_1268 rfl ?_
  refine sd_aload_n (pc := 1269) dL_law_1269 rfl ?_
  refine sd_iload_n (pc := 1270) dL_law_1270 rfl ?_
  refine sd_iconst (pc := 1271) 1 dL_law_1271 ci_1 ?_
  refine sd_iadd (pc := 1272) dL_law_1272 ?_
  refine sd_sld (pc := 1273) dL_law_1273 (fun v1 => ?_)
  refine sd_aload_n (pc := 1274) dL_law_1274 rfl ?_
  refine sd_iload_n (pc := 1275) dL_law_1275 rfl ?_
  refine sd_iconst (pc := 1276) 2 dL_law_1276 ci_2 ?_
  refine sd_iadd (pc := 1277) dL_law_1277 ?_
  refine sd_sld (pc := 1278) dL_law_1278 (fun v2 => ?_)
  refine sd_cVI (k2 := k7_likelier) (As := [.int v1, .int v2]) (rest := []) (b := 3) (ci := 6) (pc := 1279) 146 (show sm_sq 3 = some (.inr 6) from rfl) (by decide) rfl dL_law_1279 mlL_146 (ms7_likelier).1 (ms7_likelier).2 (me7_likelier) ⟨rfl, rfl⟩ ⟨Nat.le_of_ble_eq_true rfl, Nat.le_of_ble_eq_true rfl⟩ (Nat.le_of_ble_eq_true rfl) (Nat.le_of_ble_eq_true rfl) (Or.inl rfl) (Nat.le_refl _) (Nat.le_refl _) rfl (s7_likelier F v1 v2 S) (fun v3 S => ?_)
  refine sd_aload_n (pc := 1282) dL_law_1282 rfl ?_
  refine sd_aload_n (pc := 1283) dL_law_1283 rfl ?_
  refine sd_iload_n (pc := 1284) dL_law_1284 rfl ?_
  refine sd_iconst (pc := 1285) 1 dL_law_1285 ci_1 ?_
  refine sd_iadd (pc := 1286) dL_law_1286 ?_
  refine sd_sld (pc := 1287) dL_law_1287 (fun v4 => ?_)
  refine sd_aload_n (pc := 1288) dL_law_1288 rfl ?_
  refine sd_iload_n (pc := 1289) dL_law_1289 rfl ?_
  refine sd_iconst (pc := 1290) 2 dL_law_1290 ci_2 ?_
  refine sd_iadd (pc := 1291) dL_law_1291 ?_
  refine sd_sld (pc := 1292) dL_law_1292 (fun v5 => ?_)
  refine sd_cVI (k2 := k8_likelier) (As := [.int v4, .int v5]) (rest := [.int v3]) (b := 52) (ci := 7) (pc := 1293) 149 (show sm_sq 52 = some (.inr 7) from rfl) (by decide) rfl dL_law_1293 mlL_149 (ms8_likelier).1 (ms8_likelier).2 (me8_likelier) ⟨rfl, rfl⟩ ⟨Nat.le_of_ble_eq_true rfl, Nat.le_of_ble_eq_true rfl⟩ (Nat.le_of_ble_eq_true rfl) (Nat.le_of_ble_eq_true rfl) (Or.inl rfl) (Nat.le_refl _) (Nat.le_refl _) rfl (s8_likelier F v4 v5 S) (fun v6 S => ?_)
  refine sd_ic_eq (pc := 1296) 1623 dL_law_1296 (by decide) (fun _ => ?_) (fun _ => ?_)
  · refine sd_iinc (lf2 := [some (.ref 2), some (.ref 3), some (.ref 52), some (.int (l3 + 6))]) (pc := 1623) dL_law_1623 (Nat.le_of_ble_eq_true rfl) rfl ci_6 rfl ?_
    refine sd_goto (pc := 1626) 18 dL_law_1626 (by decide) ?_
    exact hc18 (l3 + 6) S
  · refine sd_iconst (pc := 1299) 0 dL_law_1299 ci_0 ?_
    exact sd_zret (pc := 1300) dL_law_1300 (by decide) (Nat.le_refl _) (Nat.le_refl _)
set_option maxHeartbeats 4000000 in
set_option maxRecDepth 20000 in
theorem sL_law_1245 {N : Nat} (F : Nat) (c18 : Int32 → sm_t → Option (Int32 × sm_t)) (hc18 : ∀ (l3 : Int32) (S : sm_t), sm_S (sm_jI N) kL_law 67 4836 18 [some (.ref 2), some (.ref 3), some (.ref 52), some (.int l3)] [] (sm_m N S) (c18 l3 S)) (l3 : Int32) (S : sm_t) : sm_S (sm_jI N) kL_law 67 4836 1245 [some (.ref 2), some (.ref 3), some (.ref 52), some (.int l3)] [] (sm_m N S) (xL_law_1245 F N c18 l3 S) := by
  unfold xL_law_1245
  refine sd_aload_n (pc := 1245) dL_law_1245 rfl ?_
  refine sd_aload_n (pc := 1246) dL_law_1246 rfl ?_
  refine sd_iload_n (pc := 1247) dL_law_1247 rfl ?_
  refine sd_iconst (pc := 1248) 1 dL_law_1248 ci_1 ?_
  refine sd_iadd (pc := 1249) dL_law_1249 ?_
  refine sd_sld (pc := 1250) dL_law_1250 (fun v1 => ?_)
  refine sd_cVI (k2 := k7_cross) (As := [.int v1]) (rest := []) (b := 3) (ci := 6) (pc := 1251) 142 (show sm_sq 3 = some (.inr 6) from rfl) (by decide) rfl dL_law_1251 mlL_142 (ms7_cross).1 (ms7_cross).2 (me7_cross) ⟨rfl, rfl⟩ ⟨Nat.le_of_ble_eq_true rfl, Nat.le_of_ble_eq_true rfl⟩ (Nat.le_of_ble_eq_true rfl) (Nat.le_of_ble_eq_true rfl) (Or.inl rfl) (Nat.le_refl _) (Nat.le_refl _) rfl (s7_cross F v1 S) (fun v2 S => ?_)
  refine sd_aload_n (pc := 1254) dL_law_1254 rfl ?_
  refine sd_aload_n (pc := 1255) dL_law_1255 rfl ?_
  refine sd_iload_n (pc := 1256) dL_law_1256 rfl ?_
  refine sd_iconst (pc := 1257) 1 dL_law_1257 ci_1 ?_
  refine sd_iadd (pc := 1258) dL_law_1258 ?_
  refine sd_sld (pc := 1259) dL_law_1259 (fun v3 => ?_)
  refine sd_cVI (k2 := k8_cross) (As := [.int v3]) (rest := [.int v2]) (b := 52) (ci := 7) (pc := 1260) 145 (show sm_sq 52 = some (.inr 7) from rfl) (by decide) rfl dL_law_1260 mlL_145 (ms8_cross).1 (ms8_cross).2 (me8_cross) ⟨rfl, rfl⟩ ⟨Nat.le_of_ble_eq_true rfl, Nat.le_of_ble_eq_true rfl⟩ (Nat.le_of_ble_eq_true rfl) (Nat.le_of_ble_eq_true rfl) (Or.inl rfl) (Nat.le_refl _) (Nat.le_refl _) rfl (s8_cross F v3 S) (fun v4 S => ?_)
  refine sd_ic_eq (pc := 1263) 1623 dL_law_1263 (by decide) (fun _ => ?_) (fun _ => ?_)
  · refine sd_iinc (lf2 := [some (.ref 2), some (.ref 3), some (.ref 52), some (.int (l3 + 6))]) (pc := 1623) dL_law_1623 (Nat.le_of_ble_eq_true rfl) rfl ci_6 rfl ?_
    refine sd_goto (pc := 1626) 18 dL_law_1626 (by decide) ?_
    exact hc18 (l3 + 6) S
  · refine sd_iconst (pc := 1266) 0 dL_law_1266 ci_0 ?_
    exact sd_zret (pc := 1267) dL_law_1267 (by decide) (Nat.le_refl _) (Nat.le_refl _)
set_option maxHeartbeats 4000000 in
set_option maxRecDepth 20000 in
theorem sL_law_1212 {N : Nat} (F : Nat) (c18 : Int32 → sm_t → Option (Int32 × sm_t)) (hc18 : ∀ (l3 : Int32) (S : sm_t), sm_S (sm_jI N) kL_law 67 4836 18 [some (.ref 2), some (.ref 3), some (.ref 52), some (.int l3)] [] (sm_m N S) (c18 l3 S)) (l3 : Int32) (S : sm_t) : sm_S (sm_jI N) kL_law 67 4836 1212 [some (.ref 2), some (.ref 3), some (.ref 52), some (.int l3)] [] (sm_m N S) (xL_law_1212 F N c18 l3 S) := by
  unfold xL_law_1212
  refine sd_aload_n (pc := 1212) dL_law_1212 rfl ?_
  refine sd_aload_n (pc := 1213) dL_law_1213 rfl ?_
  refine sd_iload_n (pc := 1214) dL_law_1214 rfl ?_
  refine sd_iconst (pc := 1215) 1 dL_law_1215 ci_1 ?_
  refine sd_iadd (pc := 1216) dL_law_1216 ?_
  refine sd_sld (pc := 1217) dL_law_1217 (fun v1 => ?_)
  refine sd_aload_n (pc := 1218) dL_law_1218 rfl ?_
  refine sd_iload_n (pc := 1219) dL_law_1219 rfl ?_
  refine sd_iconst (pc := 1220) 2 dL_law_1220 ci_2 ?_
  refine sd_iadd (pc := 1221) dL_law_1221 ?_
  refine sd_sld (pc := 1222) dL_law_1222 (fun v2 => ?_)
  refine sd_cVI (k2 := k7_truly) (As := [.int v1, .int v2]) (rest := []) (b := 3) (ci := 6) (pc := 1223) 138 (show sm_sq 3 = some (.inr 6) from rfl) (by decide) rfl dL_law_1223 mlL_138 (ms7_truly).1 (ms7_truly).2 (me7_truly) ⟨rfl, rfl⟩ ⟨Nat.le_of_ble_eq_true rfl, Nat.le_of_ble_eq_true rfl⟩ (Nat.le_of_ble_eq_true rfl) (Nat.le_of_ble_eq_true rfl) (Or.inl rfl) (Nat.le_refl _) (Nat.le_refl _) rfl (s7_truly F v1 v2 S) (fun v3 S => ?_)
  refine sd_aload_n (pc := 1226) dL_law_1226 rfl ?_
  refine sd_aload_n (pc := 1227) dL_law_1227 rfl ?_
  refine sd_iload_n (pc := 1228) dL_law_1228 rfl ?_
  refine sd_iconst (pc := 1229) 1 dL_law_1229 ci_1 ?_
  refine sd_iadd (pc := 1230) dL_law_1230 ?_
  refine sd_sld (pc := 1231) dL_law_1231 (fun v4 => ?_)
  refine sd_aload_n (pc := 1232) dL_law_1232 rfl ?_
  refine sd_iload_n (pc := 1233) dL_law_1233 rfl ?_
  refine sd_iconst (pc := 1234) 2 dL_law_1234 ci_2 ?_
  refine sd_iadd (pc := 1235) dL_law_1235 ?_
  refine sd_sld (pc := 1236) dL_law_1236 (fun v5 => ?_)
  refine sd_cVI (k2 := k8_truly) (As := [.int v4, .int v5]) (rest := [.int v3]) (b := 52) (ci := 7) (pc := 1237) 141 (show sm_sq 52 = some (.inr 7) from rfl) (by decide) rfl dL_law_1237 mlL_141 (ms8_truly).1 (ms8_truly).2 (me8_truly) ⟨rfl, rfl⟩ ⟨Nat.le_of_ble_eq_true rfl, Nat.le_of_ble_eq_true rfl⟩ (Nat.le_of_ble_eq_true rfl) (Nat.le_of_ble_eq_true rfl) (Or.inl rfl) (Nat.le_refl _) (Nat.le_refl _) rfl (s8_truly F v4 v5 S) (fun v6 S => ?_)
  refine sd_ic_eq (pc := 1240) 1623 dL_law_1240 (by decide) (fun _ => ?_) (fun _ => ?_)
  · refine sd_iinc (lf2 := [some (.ref 2), some (.ref 3), some (.ref 52), some (.int (l3 + 6))]) (pc := 1623) dL_law_1623 (Nat.le_of_ble_eq_true rfl) rfl ci_6 rfl ?_
    refine sd_goto (pc := 1626) 18 dL_law_1626 (by decide) ?_
    exact hc18 (l3 + 6) S
  · refine sd_iconst (pc := 1243) 0 dL_law_1243 ci_0 ?_
    exact sd_zret (pc := 1244) dL_law_1244 (by decide) (Nat.le_refl _) (Nat.le_refl _)
set_option maxHeartbeats 4000000 in
set_option maxRecDepth 20000 in
theorem sL_law_1189 {N : Nat} (F : Nat) (c18 : Int32 → sm_t → Option (Int32 × sm_t)) (hc18 : ∀ (l3 : Int32) (S : sm_t), sm_S (sm_jI N) kL_law 67 4836 18 [some (.ref 2), some (.ref 3), some (.ref 52), some (.int l3)] [] (sm_m N S) (c18 l3 S)) (l3 : Int32) (S : sm_t) : sm_S (sm_jI N) kL_law 67 4836 1189 [some (.ref 2), some (.ref 3), some (.ref 52), some (.int l3)] [] (sm_m N S) (xL_law_1189 F N c18 l3 S) := by
  unfold xL_law_1189
  refine sd_aload_n (pc := 1189) dL_law_1189 rfl ?_
  refine sd_aload_n (pc := 1190) dL_law_1190 rfl ?_
  refine sd_iload_n (pc := 1191) dL_law_1191 rfl ?_
  refine sd_iconst (pc := 1192) 1 dL_law_1192 ci_1 ?_
  refine sd_iadd (pc := 1193) dL_law_1193 ?_
  refine sd_sld (pc := 1194) dL_law_1194 (fun v1 => ?_)
  refine sd_cVI (k2 := k7_turns) (As := [.int v1]) (rest := []) (b := 3) (ci := 6) (pc := 1195) 134 (show sm_sq 3 = some (.inr 6) from rfl) (by decide) rfl dL_law_1195 mlL_134 (ms7_turns).1 (ms7_turns).2 (me7_turns) ⟨rfl, rfl⟩ ⟨Nat.le_of_ble_eq_true rfl, Nat.le_of_ble_eq_true rfl⟩ (Nat.le_of_ble_eq_true rfl) (Nat.le_of_ble_eq_true rfl) (Or.inl rfl) (Nat.le_refl _) (Nat.le_refl _) rfl (s7_turns F v1 S) (fun v2 S => ?_)
  refine sd_aload_n (pc := 1198) dL_law_1198 rfl ?_
  refine sd_aload_n (pc := 1199) dL_law_1199 rfl ?_
  refine sd_iload_n (pc := 1200) dL_law_1200 rfl ?_
  refine sd_iconst (pc := 1201) 1 dL_law_1201 ci_1 ?_
  refine sd_iadd (pc := 1202) dL_law_1202 ?_
  refine sd_sld (pc := 1203) dL_law_1203 (fun v3 => ?_)
  refine sd_cVI (k2 := k8_turns) (As := [.int v3]) (rest := [.int v2]) (b := 52) (ci := 7) (pc := 1204) 137 (show sm_sq 52 = some (.inr 7) from rfl) (by decide) rfl dL_law_1204 mlL_137 (ms8_turns).1 (ms8_turns).2 (me8_turns) ⟨rfl, rfl⟩ ⟨Nat.le_of_ble_eq_true rfl, Nat.le_of_ble_eq_true rfl⟩ (Nat.le_of_ble_eq_true rfl) (Nat.le_of_ble_eq_true rfl) (Or.inl rfl) (Nat.le_refl _) (Nat.le_refl _) rfl (s8_turns F v3 S) (fun v4 S => ?_)
  refine sd_ic_eq (pc := 1207) 1623 dL_law_1207 (by decide) (fun _ => ?_) (fun _ => ?_)
  · refine sd_iinc (lf2 := [some (.ref 2), some (.ref 3), some (.ref 52), some (.int (l3 + 6))]) (pc := 1623) dL_law_1623 (Nat.le_of_ble_eq_true rfl) rfl ci_6 rfl ?_
    refine sd_goto (pc := 1626) 18 dL_law_1626 (by decide) ?_
    exact hc18 (l3 + 6) S
  · refine sd_iconst (pc := 1210) 0 dL_law_1210 ci_0 ?_
    exact sd_zret (pc := 1211) dL_law_1211 (by decide) (Nat.le_refl _) (Nat.le_refl _)
set_option maxHeartbeats 4000000 in
set_option maxRecDepth 20000 in
theorem sL_law_1146 {N : Nat} (F : Nat) (c18 : Int32 → sm_t → Option (Int32 × sm_t)) (hc18 : ∀ (l3 : Int32) (S : sm_t), sm_S (sm_jI N) kL_law 67 4836 18 [some (.ref 2), some (.ref 3), some (.ref 52), some (.int l3)] [] (sm_m N S) (c18 l3 S)) (l3 : Int32) (S : sm_t) : sm_S (sm_jI N) kL_law 67 4836 1146 [some (.ref 2), some (.ref 3), some (.ref 52), some (.int l3)] [] (sm_m N S) (xL_law_1146 F N c18 l3 S) := by
  unfold xL_law_1146
  refine sd_aload_n (pc := 1146) dL_law_1146 rfl ?_
  refine sd_aload_n (pc := 1147) dL_law_1147 rfl ?_
  refine sd_iload_n (pc := 1148) dL_law_1148 rfl ?_
  refine sd_iconst (pc := 1149) 1 dL_law_1149 ci_1 ?_
  refine sd_iadd (pc := 1150) dL_law_1150 ?_
  refine sd_sld (pc := 1151) dL_law_1151 (fun v1 => ?_)
  refine sd_aload_n (pc := 1152) dL_law_1152 rfl ?_
  refine sd_iload_n (pc := 1153) dL_law_1153 rfl ?_
  refine sd_iconst (pc := 1154) 2 dL_law_1154 ci_2 ?_
  refine sd_iadd (pc := 1155) dL_law_1155 ?_
  refine sd_sld (pc := 1156) dL_law_1156 (fun v2 => ?_)
  refine sd_aload_n (pc := 1157) dL_law_1157 rfl ?_
  refine sd_iload_n (pc := 1158) dL_law_1158 rfl ?_
  refine sd_iconst (pc := 1159) 3 dL_law_1159 ci_3 ?_
  refine sd_iadd (pc := 1160) dL_law_1160 ?_
  refine sd_sld (pc := 1161) dL_law_1161 (fun v3 => ?_)
  refine sd_cVI (k2 := k7_falls) (As := [.int v1, .int v2, .int v3]) (rest := []) (b := 3) (ci := 6) (pc := 1162) 130 (show sm_sq 3 = some (.inr 6) from rfl) (by decide) rfl dL_law_1162 mlL_130 (ms7_falls).1 (ms7_falls).2 (me7_falls) ⟨rfl, rfl⟩ ⟨Nat.le_of_ble_eq_true rfl, Nat.le_of_ble_eq_true rfl⟩ (Nat.le_of_ble_eq_true rfl) (Nat.le_of_ble_eq_true rfl) (Or.inl rfl) (Nat.le_refl _) (Nat.le_refl _) rfl (s7_falls F v1 v2 v3 S) (fun v4 S => ?_)
  refine sd_aload_n (pc := 1165) dL_law_1165 rfl ?_
  refine sd_aload_n (pc := 1166) dL_law_1166 rfl ?_
  refine sd_iload_n (pc := 1167) dL_law_1167 rfl ?_
  refine sd_iconst (pc := 1168) 1 dL_law_1168 ci_1 ?_
  refine sd_iadd (pc := 1169) dL_law_1169 ?_
  refine sd_sld (pc := 1170) dL_law_1170 (fun v5 => ?_)
  refine sd_aload_n (pc := 1171) dL_law_1171 rfl ?_
  refine sd_iload_n (pc := 1172) dL_law_1172 rfl ?_
  refine sd_iconst (pc := 1173) 2 dL_law_1173 ci_2 ?_
  refine sd_iadd (pc := 1174) dL_law_1174 ?_
  refine sd_sld (pc := 1175) dL_law_1175 (fun v6 => ?_)
  refine sd_aload_n (pc := 1176) dL_law_1176 rfl ?_
  refine sd_iload_n (pc := 1177) dL_law_1177 rfl ?_
  refine sd_iconst (pc := 1178) 3 dL_law_1178 ci_3 ?_
  refine sd_iadd (pc := 1179) dL_law_1179 ?_
  refine sd_sld (pc := 1180) dL_law_1180 (fun v7 => ?_)
  refine sd_cVI (k2 := k8_falls) (As := [.int v5, .int v6, .int v7]) (rest := [.int v4]) (b := 52) (ci := 7) (pc := 1181) 133 (show sm_sq 52 = some (.inr 7) from rfl) (by decide) rfl dL_law_1181 mlL_133 (ms8_falls).1 (ms8_falls).2 (me8_falls) ⟨rfl, rfl⟩ ⟨Nat.le_of_ble_eq_true rfl, Nat.le_of_ble_eq_true rfl⟩ (Nat.le_of_ble_eq_true rfl) (Nat.le_of_ble_eq_true rfl) (Or.inl rfl) (Nat.le_refl _) (Nat.le_refl _) rfl (s8_falls F v5 v6 v7 S) (fun v8 S => ?_)
  refine sd_ic_eq (pc := 1184) 1623 dL_law_1184 (by decide) (fun _ => ?_) (fun _ => ?_)
  · refine sd_iinc (lf2 := [some (.ref 2), some (.ref 3), some (.ref 52), some (.int (l3 + 6))]) (pc := 1623) dL_law_1623 (Nat.le_of_ble_eq_true rfl) rfl ci_6 rfl ?_
    refine sd_goto (pc := 1626) 18 dL_law_1626 (by decide) ?_
    exact hc18 (l3 + 6) S
  · refine sd_iconst (pc := 1187) 0 dL_law_1187 ci_0 ?_
    exact sd_zret (pc := 1188) dL_law_1188 (by decide) (Nat.le_refl _) (Nat.le_refl _)
set_option maxHeartbeats 4000000 in
set_option maxRecDepth 20000 in
theorem sL_law_1123 {N : Nat} (F : Nat) (c18 : Int32 → sm_t → Option (Int32 × sm_t)) (hc18 : ∀ (l3 : Int32) (S : sm_t), sm_S (sm_jI N) kL_law 67 4836 18 [some (.ref 2), some (.ref 3), some (.ref 52), some (.int l3)] [] (sm_m N S) (c18 l3 S)) (l3 : Int32) (S : sm_t) : sm_S (sm_jI N) kL_law 67 4836 1123 [some (.ref 2), some (.ref 3), some (.ref 52), some (.int l3)] [] (sm_m N S) (xL_law_1123 F N c18 l3 S) := by
  unfold xL_law_1123
  refine sd_aload_n (pc := 1123) dL_law_1123 rfl ?_
  refine sd_aload_n (pc := 1124) dL_law_1124 rfl ?_
  refine sd_iload_n (pc := 1125) dL_law_1125 rfl ?_
  refine sd_iconst (pc := 1126) 1 dL_law_1126 ci_1 ?_
  refine sd_iadd (pc := 1127) dL_law_1127 ?_
  refine sd_sld (pc := 1128) dL_law_1128 (fun v1 => ?_)
  refine sd_cVI (k2 := k7_ended) (As := [.int v1]) (rest := []) (b := 3) (ci := 6) (pc := 1129) 126 (show sm_sq 3 = some (.inr 6) from rfl) (by decide) rfl dL_law_1129 mlL_126 (ms7_ended).1 (ms7_ended).2 (me7_ended) ⟨rfl, rfl⟩ ⟨Nat.le_of_ble_eq_true rfl, Nat.le_of_ble_eq_true rfl⟩ (Nat.le_of_ble_eq_true rfl) (Nat.le_of_ble_eq_true rfl) (Or.inl rfl) (Nat.le_refl _) (Nat.le_refl _) rfl (s7_ended F v1 S) (fun v2 S => ?_)
  refine sd_aload_n (pc := 1132) dL_law_1132 rfl ?_
  refine sd_aload_n (pc := 1133) dL_law_1133 rfl ?_
  refine sd_iload_n (pc := 1134) dL_law_1134 rfl ?_
  refine sd_iconst (pc := 1135) 1 dL_law_1135 ci_1 ?_
  refine sd_iadd (pc := 1136) dL_law_1136 ?_
  refine sd_sld (pc := 1137) dL_law_1137 (fun v3 => ?_)
  refine sd_cVI (k2 := k8_ended) (As := [.int v3]) (rest := [.int v2]) (b := 52) (ci := 7) (pc := 1138) 129 (show sm_sq 52 = some (.inr 7) from rfl) (by decide) rfl dL_law_1138 mlL_129 (ms8_ended).1 (ms8_ended).2 (me8_ended) ⟨rfl, rfl⟩ ⟨Nat.le_of_ble_eq_true rfl, Nat.le_of_ble_eq_true rfl⟩ (Nat.le_of_ble_eq_true rfl) (Nat.le_of_ble_eq_true rfl) (Or.inl rfl) (Nat.le_refl _) (Nat.le_refl _) rfl (s8_ended F v3 S) (fun v4 S => ?_)
  refine sd_ic_eq (pc := 1141) 1623 dL_law_1141 (by decide) (fun _ => ?_) (fun _ => ?_)
  · refine sd_iinc (lf2 := [some (.ref 2), some (.ref 3), some (.ref 52), some (.int (l3 + 6))]) (pc := 1623) dL_law_1623 (Nat.le_of_ble_eq_true rfl) rfl ci_6 rfl ?_
    refine sd_goto (pc := 1626) 18 dL_law_1626 (by decide) ?_
    exact hc18 (l3 + 6) S
  · refine sd_iconst (pc := 1144) 0 dL_law_1144 ci_0 ?_
    exact sd_zret (pc := 1145) dL_law_1145 (by decide) (Nat.le_refl _) (Nat.le_refl _)
set_option maxHeartbeats 4000000 in
set_option maxRecDepth 20000 in
theorem sL_law_1090 {N : Nat} (F : Nat) (c18 : Int32 → sm_t → Option (Int32 × sm_t)) (hc18 : ∀ (l3 : Int32) (S : sm_t), sm_S (sm_jI N) kL_law 67 4836 18 [some (.ref 2), some (.ref 3), some (.ref 52), some (.int l3)] [] (sm_m N S) (c18 l3 S)) (l3 : Int32) (S : sm_t) : sm_S (sm_jI N) kL_law 67 4836 1090 [some (.ref 2), some (.ref 3), some (.ref 52), some (.int l3)] [] (sm_m N S) (xL_law_1090 F N c18 l3 S) := by
  unfold xL_law_1090
  refine sd_aload_n (pc := 1090) dL_law_1090 rfl ?_
  refine sd_aload_n (pc := 1091) dL_law_1091 rfl ?_
  refine sd_iload_n (pc := 1092) dL_law_1092 rfl ?_
  refine sd_iconst (pc := 1093) 1 dL_law_1093 ci_1 ?_
  refine sd_iadd (pc := 1094) dL_law_1094 ?_
  refine sd_sld (pc := 1095) dL_law_1095 (fun v1 => ?_)
  refine sd_aload_n (pc := 1096) dL_law_1096 rfl ?_
  refine sd_iload_n (pc := 1097) dL_law_1097 rfl ?_
  refine sd_iconst (pc := 1098) 2 dL_law_1098 ci_2 ?_
  refine sd_iadd (pc := 1099) dL_law_1099 ?_
  refine sd_sld (pc := 1100) dL_law_1100 (fun v2 => ?_)
  refine sd_cVI (k2 := k7_hour) (As := [.int v1, .int v2]) (rest := []) (b := 3) (ci := 6) (pc := 1101) 122 (show sm_sq 3 = some (.inr 6) from rfl) (by decide) rfl dL_law_1101 mlL_122 (ms7_hour).1 (ms7_hour).2 (me7_hour) ⟨rfl, rfl⟩ ⟨Nat.le_of_ble_eq_true rfl, Nat.le_of_ble_eq_true rfl⟩ (Nat.le_of_ble_eq_true rfl) (Nat.le_of_ble_eq_true rfl) (Or.inl rfl) (Nat.le_refl _) (Nat.le_refl _) rfl (s7_hour F v1 v2 S) (fun v3 S => ?_)
  refine sd_aload_n (pc := 1104) dL_law_1104 rfl ?_
  refine sd_aload_n (pc := 1105) dL_law_1105 rfl ?_
  refine sd_iload_n (pc := 1106) dL_law_1106 rfl ?_
  refine sd_iconst (pc := 1107) 1 dL_law_1107 ci_1 ?_
  refine sd_iadd (pc := 1108) dL_law_1108 ?_
  refine sd_sld (pc := 1109) dL_law_1109 (fun v4 => ?_)
  refine sd_aload_n (pc := 1110) dL_law_1110 rfl ?_
  refine sd_iload_n (pc := 1111) dL_law_1111 rfl ?_
  refine sd_iconst (pc := 1112) 2 dL_law_1112 ci_2 ?_
  refine sd_iadd (pc := 1113) dL_law_1113 ?_
  refine sd_sld (pc := 1114) dL_law_1114 (fun v5 => ?_)
  refine sd_cVI (k2 := k8_hour) (As := [.int v4, .int v5]) (rest := [.int v3]) (b := 52) (ci := 7) (pc := 1115) 125 (show sm_sq 52 = some (.inr 7) from rfl) (by decide) rfl dL_law_1115 mlL_125 (ms8_hour).1 (ms8_hour).2 (me8_hour) ⟨rfl, rfl⟩ ⟨Nat.le_of_ble_eq_true rfl, Nat.le_of_ble_eq_true rfl⟩ (Nat.le_of_ble_eq_true rfl) (Nat.le_of_ble_eq_true rfl) (Or.inl rfl) (Nat.le_refl _) (Nat.le_refl _) rfl (s8_hour F v4 v5 S) (fun v6 S => ?_)
  refine sd_ic_eq (pc := 1118) 1623 dL_law_1118 (by decide) (fun _ => ?_) (fun _ => ?_)
  · refine sd_iinc (lf2 := [some (.ref 2), some (.ref 3), some (.ref 52), some (.int (l3 + 6))]) (pc := 1623) dL_law_1623 (Nat.le_of_ble_eq_true rfl) rfl ci_6 rfl ?_
    refine sd_goto (pc := 1626) 18 dL_law_1626 (by decide) ?_
    exact hc18 (l3 + 6) S
  · refine sd_iconst (pc := 1121) 0 dL_law_1121 ci_0 ?_
    exact sd_zret (pc := 1122) dL_law_1122 (by decide) (Nat.le_refl _) (Nat.le_refl _)
set_option maxHeartbeats 4000000 in
set_option maxRecDepth 20000 in
theorem sL_law_1047 {N : Nat} (F : Nat) (c18 : Int32 → sm_t → Option (Int32 × sm_t)) (hc18 : ∀ (l3 : Int32) (S : sm_t), sm_S (sm_jI N) kL_law 67 4836 18 [some (.ref 2), some (.ref 3), some (.ref 52), some (.int l3)] [] (sm_m N S) (c18 l3 S)) (l3 : Int32) (S : sm_t) : sm_S (sm_jI N) kL_law 67 4836 1047 [some (.ref 2), some (.ref 3), some (.ref 52), some (.int l3)] [] (sm_m N S) (xL_law_1047 F N c18 l3 S) := by
  unfold xL_law_1047
  refine sd_aload_n (pc := 1047) dL_law_1047 rfl ?_
  refine sd_aload_n (pc := 1048) dL_law_1048 rfl ?_
  refine sd_iload_n (pc := 1049) dL_law_1049 rfl ?_
  refine sd_iconst (pc := 1050) 1 dL_law_1050 ci_1 ?_
  refine sd_iadd (pc := 1051) dL_law_1051 ?_
  refine sd_sld (pc := 1052) dL_law_1052 (fun v1 => ?_)
  refine sd_aload_n (pc := 1053) dL_law_1053 rfl ?_
  refine sd_iload_n (pc := 1054) dL_law_1054 rfl ?_
  refine sd_iconst (pc := 1055) 2 dL_law_1055 ci_2 ?_
  refine sd_iadd (pc := 1056) dL_law_1056 ?_
  refine sd_sld (pc := 1057) dL_law_1057 (fun v2 => ?_)
  refine sd_aload_n (pc := 1058) dL_law_1058 rfl ?_
  refine sd_iload_n (pc := 1059) dL_law_1059 rfl ?_
  refine sd_iconst (pc := 1060) 3 dL_law_1060 ci_3 ?_
  refine sd_iadd (pc := 1061) dL_law_1061 ?_
  refine sd_sld (pc := 1062) dL_law_1062 (fun v3 => ?_)
  refine sd_cVI (k2 := k7_sure) (As := [.int v1, .int v2, .int v3]) (rest := []) (b := 3) (ci := 6) (pc := 1063) 118 (show sm_sq 3 = some (.inr 6) from rfl) (by decide) rfl dL_law_1063 mlL_118 (ms7_sure).1 (ms7_sure).2 (me7_sure) ⟨rfl, rfl⟩ ⟨Nat.le_of_ble_eq_true rfl, Nat.le_of_ble_eq_true rfl⟩ (Nat.le_of_ble_eq_true rfl) (Nat.le_of_ble_eq_true rfl) (Or.inl rfl) (Nat.le_refl _) (Nat.le_refl _) rfl (s7_sure F v1 v2 v3 S) (fun v4 S => ?_)
  refine sd_aload_n (pc := 1066) dL_law_1066 rfl ?_
  refine sd_aload_n (pc := 1067) dL_law_1067 rfl ?_
  refine sd_iload_n (pc := 1068) dL_law_1068 rfl ?_
  refine sd_iconst (pc := 1069) 1 dL_law_1069 ci_1 ?_
  refine sd_iadd (pc := 1070) dL_law_1070 ?_
  refine sd_sld (pc := 1071) dL_law_1071 (fun v5 => ?_)
  refine sd_aload_n (pc := 1072) dL_law_1072 rfl ?_
  refine sd_iload_n (pc := 1073) dL_law_1073 rfl ?_
  refine sd_iconst (pc := 1074) 2 dL_law_1074 ci_2 ?_
  refine sd_iadd (pc := 1075) dL_law_1075 ?_
  refine sd_sld (pc := 1076) dL_law_1076 (fun v6 => ?_)
  refine sd_aload_n (pc := 1077) dL_law_1077 rfl ?_
  refine sd_iload_n (pc := 1078) dL_law_1078 rfl ?_
  refine sd_iconst (pc := 1079) 3 dL_law_1079 ci_3 ?_
  refine sd_iadd (pc := 1080) dL_law_1080 ?_
  refine sd_sld (pc := 1081) dL_law_1081 (fun v7 => ?_)
  refine sd_cVI (k2 := k8_sure) (As := [.int v5, .int v6, .int v7]) (rest := [.int v4]) (b := 52) (ci := 7) (pc := 1082) 121 (show sm_sq 52 = some (.inr 7) from rfl) (by decide) rfl dL_law_1082 mlL_121 (ms8_sure).1 (ms8_sure).2 (me8_sure) ⟨rfl, rfl⟩ ⟨Nat.le_of_ble_eq_true rfl, Nat.le_of_ble_eq_true rfl⟩ (Nat.le_of_ble_eq_true rfl) (Nat.le_of_ble_eq_true rfl) (Or.inl rfl) (Nat.le_refl _) (Nat.le_refl _) rfl (s8_sure F v5 v6 v7 S) (fun v8 S => ?_)
  refine sd_ic_eq (pc := 1085) 1623 dL_law_1085 (by decide) (fun _ => ?_) (fun _ => ?_)
  · refine sd_iinc (lf2 := [some (.ref 2), some (.ref 3), some (.ref 52), some (.int (l3 + 6))]) (pc := 1623) dL_law_1623 (Nat.le_of_ble_eq_true rfl) rfl ci_6 rfl ?_
    refine sd_goto (pc := 1626) 18 dL_law_1626 (by decide) ?_
    exact hc18 (l3 + 6) S
  · refine sd_iconst (pc := 1088) 0 dL_law_1088 ci_0 ?_
    exact sd_zret (pc := 1089) dL_law_1089 (by decide) (Nat.le_refl _) (Nat.le_refl _)
set_option maxHeartbeats 4000000 in
set_option maxRecDepth 20000 in
theorem sL_law_1024 {N : Nat} (F : Nat) (c18 : Int32 → sm_t → Option (Int32 × sm_t)) (hc18 : ∀ (l3 : Int32) (S : sm_t), sm_S (sm_jI N) kL_law 67 4836 18 [some (.ref 2), some (.ref 3), some (.ref 52), some (.int l3)] [] (sm_m N S) (c18 l3 S)) (l3 : Int32) (S : sm_t) : sm_S (sm_jI N) kL_law 67 4836 1024 [some (.ref 2), some (.ref 3), some (.ref 52), some (.int l3)] [] (sm_m N S) (xL_law_1024 F N c18 l3 S) := by
  unfold xL_law_1024
  refine sd_aload_n (pc := 1024) dL_law_1024 rfl ?_
  refine sd_aload_n (pc := 1025) dL_law_1025 rfl ?_
  refine sd_iload_n (pc := 1026) dL_law_1026 rfl ?_
  refine sd_iconst (pc := 1027) 1 dL_law_1027 ci_1 ?_
  refine sd_iadd (pc := 1028) dL_law_1028 ?_
  refine sd_sld (pc := 1029) dL_law_1029 (fun v1 => ?_)
  refine sd_cVI (k2 := k7_most) (As := [.int v1]) (rest := []) (b := 3) (ci := 6) (pc := 1030) 114 (show sm_sq 3 = some (.inr 6) from rfl) (by decide) rfl dL_law_1030 mlL_114 (ms7_most).1 (ms7_most).2 (me7_most) ⟨rfl, rfl⟩ ⟨Nat.le_of_ble_eq_true rfl, Nat.le_of_ble_eq_true rfl⟩ (Nat.le_of_ble_eq_true rfl) (Nat.le_of_ble_eq_true rfl) (Or.inl rfl) (Nat.le_refl _) (Nat.le_refl _) rfl (s7_most F v1 S) (fun v2 S => ?_)
  refine sd_aload_n (pc := 1033) dL_law_1033 rfl ?_
  refine sd_aload_n (pc := 1034) dL_law_1034 rfl ?_
  refine sd_iload_n (pc := 1035) dL_law_1035 rfl ?_
  refine sd_iconst (pc := 1036) 1 dL_law_1036 ci_1 ?_
  refine sd_iadd (pc := 1037) dL_law_1037 ?_
  refine sd_sld (pc := 1038) dL_law_1038 (fun v3 => ?_)
  refine sd_cVI (k2 := k8_most) (As := [.int v3]) (rest := [.int v2]) (b := 52) (ci := 7) (pc := 1039) 117 (show sm_sq 52 = some (.inr 7) from rfl) (by decide) rfl dL_law_1039 mlL_117 (ms8_most).1 (ms8_most).2 (me8_most) ⟨rfl, rfl⟩ ⟨Nat.le_of_ble_eq_true rfl, Nat.le_of_ble_eq_true rfl⟩ (Nat.le_of_ble_eq_true rfl) (Nat.le_of_ble_eq_true rfl) (Or.inl rfl) (Nat.le_refl _) (Nat.le_refl _) rfl (s8_most F v3 S) (fun v4 S => ?_)
  refine sd_ic_eq (pc := 1042) 1623 dL_law_1042 (by decide) (fun _ => ?_) (fun _ => ?_)
  · refine sd_iinc (lf2 := [some (.ref 2), some (.ref 3), some (.ref 52), some (.int (l3 + 6))]) (pc := 1623) dL_law_1623 (Nat.le_of_ble_eq_true rfl) rfl ci_6 rfl ?_
    refine sd_goto (pc := 1626) 18 dL_law_1626 (by decide) ?_
    exact hc18 (l3 + 6) S
  · refine sd_iconst (pc := 1045) 0 dL_law_1045 ci_0 ?_
    exact sd_zret (pc := 1046) dL_law_1046 (by decide) (Nat.le_refl _) (Nat.le_refl _)
set_option maxHeartbeats 4000000 in
set_option maxRecDepth 20000 in
theorem sL_law_991 {N : Nat} (F : Nat) (c18 : Int32 → sm_t → Option (Int32 × sm_t)) (hc18 : ∀ (l3 : Int32) (S : sm_t), sm_S (sm_jI N) kL_law 67 4836 18 [some (.ref 2), some (.ref 3), some (.ref 52), some (.int l3)] [] (sm_m N S) (c18 l3 S)) (l3 : Int32) (S : sm_t) : sm_S (sm_jI N) kL_law 67 4836 991 [some (.ref 2), some (.ref 3), some (.ref 52), some (.int l3)] [] (sm_m N S) (xL_law_991 F N c18 l3 S) := by
  unfold xL_law_991
  refine sd_aload_n (pc := 991) dL_law_991 rfl ?_
  refine sd_aload_n (pc := 992) dL_law_992 rfl ?_
  refine sd_iload_n (pc := 993) dL_law_993 rfl ?_
  refine sd_iconst (pc := 994) 1 dL_law_994 ci_1 ?_
  refine sd_iadd (pc := 995) dL_law_995 ?_
  refine sd_sld (pc := 996) dL_law_996 (fun v1 => ?_)
  refine sd_aload_n (pc := 997) dL_law_997 rfl ?_
  refine sd_iload_n (pc := 998) dL_law_998 rfl ?_
  refine sd_iconst (pc := 999) 2 dL_law_999 ci_2 ?_
  refine sd_iadd (pc := 1000) dL_law_1000 ?_
  refine sd_sld (pc := 1001) dL_law_1001 (fun v2 => ?_)
  refine sd_cVI (k2 := k7_where) (As := [.int v1, .int v2]) (rest := []) (b := 3) (ci := 6) (pc := 1002) 110 (show sm_sq 3 = some (.inr 6) from rfl) (by decide) rfl dL_law_1002 mlL_110 (ms7_where).1 (ms7_where).2 (me7_where) ⟨rfl, rfl⟩ ⟨Nat.le_of_ble_eq_true rfl, Nat.le_of_ble_eq_true rfl⟩ (Nat.le_of_ble_eq_true rfl) (Nat.le_of_ble_eq_true rfl) (Or.inl rfl) (Nat.le_refl _) (Nat.le_refl _) rfl (s7_where F v1 v2 S) (fun v3 S => ?_)
  refine sd_aload_n (pc := 1005) dL_law_1005 rfl ?_
  refine sd_aload_n (pc := 1006) dL_law_1006 rfl ?_
  refine sd_iload_n (pc := 1007) dL_law_1007 rfl ?_
  refine sd_iconst (pc := 1008) 1 dL_law_1008 ci_1 ?_
  refine sd_iadd (pc := 1009) dL_law_1009 ?_
  refine sd_sld (pc := 1010) dL_law_1010 (fun v4 => ?_)
  refine sd_aload_n (pc := 1011) dL_law_1011 rfl ?_
  refine sd_iload_n (pc := 1012) dL_law_1012 rfl ?_
  refine sd_iconst (pc := 1013) 2 dL_law_1013 ci_2 ?_
  refine sd_iadd (pc := 1014) dL_law_1014 ?_
  refine sd_sld (pc := 1015) dL_law_1015 (fun v5 => ?_)
  refine sd_cVI (k2 := k8_where) (As := [.int v4, .int v5]) (rest := [.int v3]) (b := 52) (ci := 7) (pc := 1016) 113 (show sm_sq 52 = some (.inr 7) from rfl) (by decide) rfl dL_law_1016 mlL_113 (ms8_where).1 (ms8_where).2 (me8_where) ⟨rfl, rfl⟩ ⟨Nat.le_of_ble_eq_true rfl, Nat.le_of_ble_eq_true rfl⟩ (Nat.le_of_ble_eq_true rfl) (Nat.le_of_ble_eq_true rfl) (Or.inl rfl) (Nat.le_refl _) (Nat.le_refl _) rfl (s8_where F v4 v5 S) (fun v6 S => ?_)
  refine sd_ic_eq (pc := 1019) 1623 dL_law_1019 (by decide) (fun _ => ?_) (fun _ => ?_)
  · refine sd_iinc (lf2 := [some (.ref 2), some (.ref 3), some (.ref 52), some (.int (l3 + 6))]) (pc := 1623) dL_law_1623 (Nat.le_of_ble_eq_true rfl) rfl ci_6 rfl ?_
    refine sd_goto (pc := 1626) 18 dL_law_1626 (by decide) ?_
    exact hc18 (l3 + 6) S
  · refine sd_iconst (pc := 1022) 0 dL_law_1022 ci_0 ?_
    exact sd_zret (pc := 1023) dL_law_1023 (by decide) (Nat.le_refl _) (Nat.le_refl _)
set_option maxHeartbeats 4000000 in
set_option maxRecDepth 20000 in
theorem sL_law_968 {N : Nat} (F : Nat) (c18 : Int32 → sm_t → Option (Int32 × sm_t)) (hc18 : ∀ (l3 : Int32) (S : sm_t), sm_S (sm_jI N) kL_law 67 4836 18 [some (.ref 2), some (.ref 3), some (.ref 52), some (.int l3)] [] (sm_m N S) (c18 l3 S)) (l3 : Int32) (S : sm_t) : sm_S (sm_jI N) kL_law 67 4836 968 [some (.ref 2), some (.ref 3), some (.ref 52), some (.int l3)] [] (sm_m N S) (xL_law_968 F N c18 l3 S) := by
  unfold xL_law_968
  refine sd_aload_n (pc := 968) dL_law_968 rfl ?_
  refine sd_aload_n (pc := 969) dL_law_969 rfl ?_
  refine sd_iload_n (pc := 970) dL_law_970 rfl ?_
  refine sd_iconst (pc := 971) 1 dL_law_971 ci_1 ?_
  refine sd_iadd (pc := 972) dL_law_972 ?_
  refine sd_sld (pc := 973) dL_law_973 (fun v1 => ?_)
  refine sd_cVI (k2 := k7_near) (As := [.int v1]) (rest := []) (b := 3) (ci := 6) (pc := 974) 106 (show sm_sq 3 = some (.inr 6) from rfl) (by decide) rfl dL_law_974 mlL_106 (ms7_near).1 (ms7_near).2 (me7_near) ⟨rfl, rfl⟩ ⟨Nat.le_of_ble_eq_true rfl, Nat.le_of_ble_eq_true rfl⟩ (Nat.le_of_ble_eq_true rfl) (Nat.le_of_ble_eq_true rfl) (Or.inl rfl) (Nat.le_refl _) (Nat.le_refl _) rfl (s7_near F v1 S) (fun v2 S => ?_)
  refine sd_aload_n (pc := 977) dL_law_977 rfl ?_
  refine sd_aload_n (pc := 978) dL_law_978 rfl ?_
  refine sd_iload_n (pc := 979) dL_law_979 rfl ?_
  refine sd_iconst (pc := 980) 1 dL_law_980 ci_1 ?_
  refine sd_iadd (pc := 981) dL_law_981 ?_
  refine sd_sld (pc := 982) dL_law_982 (fun v3 => ?_)
  refine sd_cVI (k2 := k8_near) (As := [.int v3]) (rest := [.int v2]) (b := 52) (ci := 7) (pc := 983) 109 (show sm_sq 52 = some (.inr 7) from rfl) (by decide) rfl dL_law_983 mlL_109 (ms8_near).1 (ms8_near).2 (me8_near) ⟨rfl, rfl⟩ ⟨Nat.le_of_ble_eq_true rfl, Nat.le_of_ble_eq_true rfl⟩ (Nat.le_of_ble_eq_true rfl) (Nat.le_of_ble_eq_true rfl) (Or.inl rfl) (Nat.le_refl _) (Nat.le_refl _) rfl (s8_near F v3 S) (fun v4 S => ?_)
  refine sd_ic_eq (pc := 986) 1623 dL_law_986 (by decide) (fun _ => ?_) (fun _ => ?_)
  · refine sd_iinc (lf2 := [some (.ref 2), some (.ref 3), some (.ref 52), some (.int (l3 + 6))]) (pc := 1623) dL_law_1623 (Nat.le_of_ble_eq_true rfl) rfl ci_6 rfl ?_
    refine sd_goto (pc := 1626) 18 dL_law_1626 (by decide) ?_
    exact hc18 (l3 + 6) S
  · refine sd_iconst (pc := 989) 0 dL_law_989 ci_0 ?_
    exact sd_zret (pc := 990) dL_law_990 (by decide) (Nat.le_refl _) (Nat.le_refl _)
set_option maxHeartbeats 4000000 in
set_option maxRecDepth 20000 in
theorem sL_law_935 {N : Nat} (F : Nat) (c18 : Int32 → sm_t → Option (Int32 × sm_t)) (hc18 : ∀ (l3 : Int32) (S : sm_t), sm_S (sm_jI N) kL_law 67 4836 18 [some (.ref 2), some (.ref 3), some (.ref 52), some (.int l3)] [] (sm_m N S) (c18 l3 S)) (l3 : Int32) (S : sm_t) : sm_S (sm_jI N) kL_law 67 4836 935 [some (.ref 2), some (.ref 3), some (.ref 52), some (.int l3)] [] (sm_m N S) (xL_law_935 F N c18 l3 S) := by
  unfold xL_law_935
  refine sd_aload_n (pc := 935) dL_law_935 rfl ?_
  refine sd_aload_n (pc := 936) dL_law_936 rfl ?_
  refine sd_iload_n (pc := 937) dL_law_937 rfl ?_
  refine sd_iconst (pc := 938) 1 dL_law_938 ci_1 ?_
  refine sd_iadd (pc := 939) dL_law_939 ?_
  refine sd_sld (pc := 940) dL_law_940 (fun v1 => ?_)
  refine sd_aload_n (pc := 941) dL_law_941 rfl ?_
  refine sd_iload_n (pc := 942) dL_law_942 rfl ?_
  refine sd_iconst (pc := 943) 2 dL_law_943 ci_2 ?_
  refine sd_iadd (pc := 944) dL_law_944 ?_
  refine sd_sld (pc := 945) dL_law_945 (fun v2 => ?_)
  refine sd_cVI (k2 := k7_weighs) (As := [.int v1, .int v2]) (rest := []) (b := 3) (ci := 6) (pc := 946) 102 (show sm_sq 3 = some (.inr 6) from rfl) (by decide) rfl dL_law_946 mlL_102 (ms7_weighs).1 (ms7_weighs).2 (me7_weighs) ⟨rfl, rfl⟩ ⟨Nat.le_of_ble_eq_true rfl, Nat.le_of_ble_eq_true rfl⟩ (Nat.le_of_ble_eq_true rfl) (Nat.le_of_ble_eq_true rfl) (Or.inl rfl) (Nat.le_refl _) (Nat.le_refl _) rfl (s7_weighs F v1 v2 S) (fun v3 S => ?_)
  refine sd_aload_n (pc := 949) dL_law_949 rfl ?_
  refine sd_aload_n (pc := 950) dL_law_950 rfl ?_
  refine sd_iload_n (pc := 951) dL_law_951 rfl ?_
  refine sd_iconst (pc := 952) 1 dL_law_952 ci_1 ?_
  refine sd_iadd (pc := 953) dL_law_953 ?_
  refine sd_sld (pc := 954) dL_law_954 (fun v4 => ?_)
  refine sd_aload_n (pc := 955) dL_law_955 rfl ?_
  refine sd_iload_n (pc := 956) dL_law_956 rfl ?_
  refine sd_iconst (pc := 957) 2 dL_law_957 ci_2 ?_
  refine sd_iadd (pc := 958) dL_law_958 ?_
  refine sd_sld (pc := 959) dL_law_959 (fun v5 => ?_)
  refine sd_cVI (k2 := k8_weighs) (As := [.int v4, .int v5]) (rest := [.int v3]) (b := 52) (ci := 7) (pc := 960) 105 (show sm_sq 52 = some (.inr 7) from rfl) (by decide) rfl dL_law_960 mlL_105 (ms8_weighs).1 (ms8_weighs).2 (me8_weighs) ⟨rfl, rfl⟩ ⟨Nat.le_of_ble_eq_true rfl, Nat.le_of_ble_eq_true rfl⟩ (Nat.le_of_ble_eq_true rfl) (Nat.le_of_ble_eq_true rfl) (Or.inl rfl) (Nat.le_refl _) (Nat.le_refl _) rfl (s8_weighs F v4 v5 S) (fun v6 S => ?_)
  refine sd_ic_eq (pc := 963) 1623 dL_law_963 (by decide) (fun _ => ?_) (fun _ => ?_)
  · refine sd_iinc (lf2 := [some (.ref 2), some (.ref 3), some (.ref 52), some (.int (l3 + 6))]) (pc := 1623) dL_law_1623 (Nat.le_of_ble_eq_true rfl) rfl ci_6 rfl ?_
    refine sd_goto (pc := 1626) 18 dL_law_1626 (by decide) ?_
    exact hc18 (l3 + 6) S
  · refine sd_iconst (pc := 966) 0 dL_law_966 ci_0 ?_
    exact sd_zret (pc := 967) dL_law_967 (by decide) (Nat.le_refl _) (Nat.le_refl _)
set_option maxHeartbeats 4000000 in
set_option maxRecDepth 20000 in
theorem sL_law_902 {N : Nat} (F : Nat) (c18 : Int32 → sm_t → Option (Int32 × sm_t)) (hc18 : ∀ (l3 : Int32) (S : sm_t), sm_S (sm_jI N) kL_law 67 4836 18 [some (.ref 2), some (.ref 3), some (.ref 52), some (.int l3)] [] (sm_m N S) (c18 l3 S)) (l3 : Int32) (S : sm_t) : sm_S (sm_jI N) kL_law 67 4836 902 [some (.ref 2), some (.ref 3), some (.ref 52), some (.int l3)] [] (sm_m N S) (xL_law_902 F N c18 l3 S) := by
  unfold xL_law_902
  refine sd_aload_n (pc := 902) dL_law_902 rfl ?_
  refine sd_aload_n (pc := 903) dL_law_903 rfl ?_
  refine sd_iload_n (pc := 904) dL_law_904 rfl ?_
  refine sd_iconst (pc := 905) 1 dL_law_905 ci_1 ?_
  refine sd_iadd (pc := 906) dL_law_906 ?_
  refine sd_sld (pc := 907) dL_law_907 (fun v1 => ?_)
  refine sd_aload_n (pc := 908) dL_law_908 rfl ?_
  refine sd_iload_n (pc := 909) dL_law_909 rfl ?_
  refine sd_iconst (pc := 910) 2 dL_law_910 ci_2 ?_
  refine sd_iadd (pc := 911) dL_law_911 ?_
  refine sd_sld (pc := 912) dL_law_912 (fun v2 => ?_)
  refine sd_cVI (k2 := k7_mark) (As := [.int v1, .int v2]) (rest := []) (b := 3) (ci := 6) (pc := 913) 98 (show sm_sq 3 = some (.inr 6) from rfl) (by decide) rfl dL_law_913 mlL_98 (ms7_mark).1 (ms7_mark).2 (me7_mark) ⟨rfl, rfl⟩ ⟨Nat.le_of_ble_eq_true rfl, Nat.le_of_ble_eq_true rfl⟩ (Nat.le_of_ble_eq_true rfl) (Nat.le_of_ble_eq_true rfl) (Or.inl rfl) (Nat.le_refl _) (Nat.le_refl _) rfl (s7_mark F v1 v2 S) (fun v3 S => ?_)
  refine sd_aload_n (pc := 916) dL_law_916 rfl ?_
  refine sd_aload_n (pc := 917) dL_law_917 rfl ?_
  refine sd_iload_n (pc := 918) dL_law_918 rfl ?_
  refine sd_iconst (pc := 919) 1 dL_law_919 ci_1 ?_
  refine sd_iadd (pc := 920) dL_law_920 ?_
  refine sd_sld (pc := 921) dL_law_921 (fun v4 => ?_)
  refine sd_aload_n (pc := 922) dL_law_922 rfl ?_
  refine sd_iload_n (pc := 923) dL_law_923 rfl ?_
  refine sd_iconst (pc := 924) 2 dL_law_924 ci_2 ?_
  refine sd_iadd (pc := 925) dL_law_925 ?_
  refine sd_sld (pc := 926) dL_law_926 (fun v5 => ?_)
  refine sd_cVI (k2 := k8_mark) (As := [.int v4, .int v5]) (rest := [.int v3]) (b := 52) (ci := 7) (pc := 927) 101 (show sm_sq 52 = some (.inr 7) from rfl) (by decide) rfl dL_law_927 mlL_101 (ms8_mark).1 (ms8_mark).2 (me8_mark) ⟨rfl, rfl⟩ ⟨Nat.le_of_ble_eq_true rfl, Nat.le_of_ble_eq_true rfl⟩ (Nat.le_of_ble_eq_true rfl) (Nat.le_of_ble_eq_true rfl) (Or.inl rfl) (Nat.le_refl _) (Nat.le_refl _) rfl (s8_mark F v4 v5 S) (fun v6 S => ?_)
  refine sd_ic_eq (pc := 930) 1623 dL_law_930 (by decide) (fun _ => ?_) (fun _ => ?_)
  · refine sd_iinc (lf2 := [some (.ref 2), some (.ref 3), some (.ref 52), some (.int (l3 + 6))]) (pc := 1623) dL_law_1623 (Nat.le_of_ble_eq_true rfl) rfl ci_6 rfl ?_
    refine sd_goto (pc := 1626) 18 dL_law_1626 (by decide) ?_
    exact hc18 (l3 + 6) S
  · refine sd_iconst (pc := 933) 0 dL_law_933 ci_0 ?_
    exact sd_zret (pc := 934) dL_law_934 (by decide) (Nat.le_refl _) (Nat.le_refl _)
set_option maxHeartbeats 4000000 in
set_option maxRecDepth 20000 in
theorem sL_law_869 {N : Nat} (F : Nat) (c18 : Int32 → sm_t → Option (Int32 × sm_t)) (hc18 : ∀ (l3 : Int32) (S : sm_t), sm_S (sm_jI N) kL_law 67 4836 18 [some (.ref 2), some (.ref 3), some (.ref 52), some (.int l3)] [] (sm_m N S) (c18 l3 S)) (l3 : Int32) (S : sm_t) : sm_S (sm_jI N) kL_law 67 4836 869 [some (.ref 2), some (.ref 3), some (.ref 52), some (.int l3)] [] (sm_m N S) (xL_law_869 F N c18 l3 S) := by
  unfold xL_law_869
  refine sd_aload_n (pc := 869) dL_law_869 rfl ?_
  refine sd_aload_n (pc := 870) dL_law_870 rfl ?_
  refine sd_iload_n (pc := 871) dL_law_871 rfl ?_
  refine sd_iconst (pc := 872) 1 dL_law_872 ci_1 ?_
  refine sd_iadd (pc := 873) dL_law_873 ?_
  refine sd_sld (pc := 874) dL_law_874 (fun v1 => ?_)
  refine sd_aload_n (pc := 875) dL_law_875 rfl ?_
  refine sd_iload_n (pc := 876) dL_law_876 rfl ?_
  refine sd_iconst (pc := 877) 2 dL_law_877 ci_2 ?_
  refine sd_iadd (pc := 878) dL_law_878 ?_
  refine sd_sld (pc := 879) dL_law_879 (fun v2 => ?_)
  refine sd_cVI (k2 := k7_told) (As := [.int v1, .int v2]) (rest := []) (b := 3) (ci := 6) (pc := 880) 94 (show sm_sq 3 = some (.inr 6) from rfl) (by decide) rfl dL_law_880 mlL_94 (ms7_told).1 (ms7_told).2 (me7_told) ⟨rfl, rfl⟩ ⟨Nat.le_of_ble_eq_true rfl, Nat.le_of_ble_eq_true rfl⟩ (Nat.le_of_ble_eq_true rfl) (Nat.le_of_ble_eq_true rfl) (Or.inl rfl) (Nat.le_refl _) (Nat.le_refl _) rfl (s7_told F v1 v2 S) (fun v3 S => ?_)
  refine sd_aload_n (pc := 883) dL_law_883 rfl ?_
  refine sd_aload_n (pc := 884) dL_law_884 rfl ?_
  refine sd_iload_n (pc := 885) dL_law_885 rfl ?_
  refine sd_iconst (pc := 886) 1 dL_law_886 ci_1 ?_
  refine sd_iadd (pc := 887) dL_law_887 ?_
  refine sd_sld (pc := 888) dL_law_888 (fun v4 => ?_)
  refine sd_aload_n (pc := 889) dL_law_889 rfl ?_
  refine sd_iload_n (pc := 890) dL_law_890 rfl ?_
  refine sd_iconst (pc := 891) 2 dL_law_891 ci_2 ?_
  refine sd_iadd (pc := 892) dL_law_892 ?_
  refine sd_sld (pc := 893) dL_law_893 (fun v5 => ?_)
  refine sd_cVI (k2 := k8_told) (As := [.int v4, .int v5]) (rest := [.int v3]) (b := 52) (ci := 7) (pc := 894) 97 (show sm_sq 52 = some (.inr 7) from rfl) (by decide) rfl dL_law_894 mlL_97 (ms8_told).1 (ms8_told).2 (me8_told) ⟨rfl, rfl⟩ ⟨Nat.le_of_ble_eq_true rfl, Nat.le_of_ble_eq_true rfl⟩ (Nat.le_of_ble_eq_true rfl) (Nat.le_of_ble_eq_true rfl) (Or.inl rfl) (Nat.le_refl _) (Nat.le_refl _) rfl (s8_told F v4 v5 S) (fun v6 S => ?_)
  refine sd_ic_eq (pc := 897) 1623 dL_law_897 (by decide) (fun _ => ?_) (fun _ => ?_)
  · refine sd_iinc (lf2 := [some (.ref 2), some (.ref 3), some (.ref 52), some (.int (l3 + 6))]) (pc := 1623) dL_law_1623 (Nat.le_of_ble_eq_true rfl) rfl ci_6 rfl ?_
    refine sd_goto (pc := 1626) 18 dL_law_1626 (by decide) ?_
    exact hc18 (l3 + 6) S
  · refine sd_iconst (pc := 900) 0 dL_law_900 ci_0 ?_
    exact sd_zret (pc := 901) dL_law_901 (by decide) (Nat.le_refl _) (Nat.le_refl _)
set_option maxHeartbeats 4000000 in
set_option maxRecDepth 20000 in
theorem sL_law_836 {N : Nat} (F : Nat) (c18 : Int32 → sm_t → Option (Int32 × sm_t)) (hc18 : ∀ (l3 : Int32) (S : sm_t), sm_S (sm_jI N) kL_law 67 4836 18 [some (.ref 2), some (.ref 3), some (.ref 52), some (.int l3)] [] (sm_m N S) (c18 l3 S)) (l3 : Int32) (S : sm_t) : sm_S (sm_jI N) kL_law 67 4836 836 [some (.ref 2), some (.ref 3), some (.ref 52), some (.int l3)] [] (sm_m N S) (xL_law_836 F N c18 l3 S) := by
  unfold xL_law_836
  refine sd_aload_n (pc := 836) dL_law_836 rfl ?_
  refine sd_aload_n (pc := 837) dL_law_837 rfl ?_
  refine sd_iload_n (pc := 838) dL_law_838 rfl ?_
  refine sd_iconst (pc := 839) 1 dL_law_839 ci_1 ?_
  refine sd_iadd (pc := 840) dL_law_840 ?_
  refine sd_sld (pc := 841) dL_law_841 (fun v1 => ?_)
  refine sd_aload_n (pc := 842) dL_law_842 rfl ?_
  refine sd_iload_n (pc := 843) dL_law_843 rfl ?_
  refine sd_iconst (pc := 844) 2 dL_law_844 ci_2 ?_
  refine sd_iadd (pc := 845) dL_law_845 ?_
  refine sd_sld (pc := 846) dL_law_846 (fun v2 => ?_)
  refine sd_cVI (k2 := k7_undo) (As := [.int v1, .int v2]) (rest := []) (b := 3) (ci := 6) (pc := 847) 90 (show sm_sq 3 = some (.inr 6) from rfl) (by decide) rfl dL_law_847 mlL_90 (ms7_undo).1 (ms7_undo).2 (me7_undo) ⟨rfl, rfl⟩ ⟨Nat.le_of_ble_eq_true rfl, Nat.le_of_ble_eq_true rfl⟩ (Nat.le_of_ble_eq_true rfl) (Nat.le_of_ble_eq_true rfl) (Or.inl rfl) (Nat.le_refl _) (Nat.le_refl _) rfl (s7_undo F v1 v2 S) (fun v3 S => ?_)
  refine sd_aload_n (pc := 850) dL_law_850 rfl ?_
  refine sd_aload_n (pc := 851) dL_law_851 rfl ?_
  refine sd_iload_n (pc := 852) dL_law_852 rfl ?_
  refine sd_iconst (pc := 853) 1 dL_law_853 ci_1 ?_
  refine sd_iadd (pc := 854) dL_law_854 ?_
  refine sd_sld (pc := 855) dL_law_855 (fun v4 => ?_)
  refine sd_aload_n (pc := 856) dL_law_856 rfl ?_
  refine sd_iload_n (pc := 857) dL_law_857 rfl ?_
  refine sd_iconst (pc := 858) 2 dL_law_858 ci_2 ?_
  refine sd_iadd (pc := 859) dL_law_859 ?_
  refine sd_sld (pc := 860) dL_law_860 (fun v5 => ?_)
  refine sd_cVI (k2 := k8_undo) (As := [.int v4, .int v5]) (rest := [.int v3]) (b := 52) (ci := 7) (pc := 861) 93 (show sm_sq 52 = some (.inr 7) from rfl) (by decide) rfl dL_law_861 mlL_93 (ms8_undo).1 (ms8_undo).2 (me8_undo) ⟨rfl, rfl⟩ ⟨Nat.le_of_ble_eq_true rfl, Nat.le_of_ble_eq_true rfl⟩ (Nat.le_of_ble_eq_true rfl) (Nat.le_of_ble_eq_true rfl) (Or.inl rfl) (Nat.le_refl _) (Nat.le_refl _) rfl (s8_undo F v4 v5 S) (fun v6 S => ?_)
  refine sd_ic_eq (pc := 864) 1623 dL_law_864 (by decide) (fun _ => ?_) (fun _ => ?_)
  · refine sd_iinc (lf2 := [some (.ref 2), some (.ref 3), some (.ref 52), some (.int (l3 + 6))]) (pc := 1623) dL_law_1623 (Nat.le_of_ble_eq_true rfl) rfl ci_6 rfl ?_
    refine sd_goto (pc := 1626) 18 dL_law_1626 (by decide) ?_
    exact hc18 (l3 + 6) S
  · refine sd_iconst (pc := 867) 0 dL_law_867 ci_0 ?_
    exact sd_zret (pc := 868) dL_law_868 (by decide) (Nat.le_refl _) (Nat.le_refl _)
set_option maxHeartbeats 4000000 in
set_option maxRecDepth 20000 in
theorem sL_law_813 {N : Nat} (F : Nat) (c18 : Int32 → sm_t → Option (Int32 × sm_t)) (hc18 : ∀ (l3 : Int32) (S : sm_t), sm_S (sm_jI N) kL_law 67 4836 18 [some (.ref 2), some (.ref 3), some (.ref 52), some (.int l3)] [] (sm_m N S) (c18 l3 S)) (l3 : Int32) (S : sm_t) : sm_S (sm_jI N) kL_law 67 4836 813 [some (.ref 2), some (.ref 3), some (.ref 52), some (.int l3)] [] (sm_m N S) (xL_law_813 F N c18 l3 S) := by
  unfold xL_law_813
  refine sd_aload_n (pc := 813) dL_law_813 rfl ?_
  refine sd_aload_n (pc := 814) dL_law_814 rfl ?_
  refine sd_iload_n (pc := 815) dL_law_815 rfl ?_
  refine sd_iconst (pc := 816) 1 dL_law_816 ci_1 ?_
  refine sd_iadd (pc := 817) dL_law_817 ?_
  refine sd_sld (pc := 818) dL_law_818 (fun v1 => ?_)
  refine sd_cVI (k2 := k7_signs) (As := [.int v1]) (rest := []) (b := 3) (ci := 6) (pc := 819) 86 (show sm_sq 3 = some (.inr 6) from rfl) (by decide) rfl dL_law_819 mlL_86 (ms7_signs).1 (ms7_signs).2 (me7_signs) ⟨rfl, rfl⟩ ⟨Nat.le_of_ble_eq_true rfl, Nat.le_of_ble_eq_true rfl⟩ (Nat.le_of_ble_eq_true rfl) (Nat.le_of_ble_eq_true rfl) (Or.inl rfl) (Nat.le_refl _) (Nat.le_refl _) rfl (s7_signs F v1 S) (fun v2 S => ?_)
  refine sd_aload_n (pc := 822) dL_law_822 rfl ?_
  refine sd_aload_n (pc := 823) dL_law_823 rfl ?_
  refine sd_iload_n (pc := 824) dL_law_824 rfl ?_
  refine sd_iconst (pc := 825) 1 dL_law_825 ci_1 ?_
  refine sd_iadd (pc := 826) dL_law_826 ?_
  refine sd_sld (pc := 827) dL_law_827 (fun v3 => ?_)
  refine sd_cVI (k2 := k8_signs) (As := [.int v3]) (rest := [.int v2]) (b := 52) (ci := 7) (pc := 828) 89 (show sm_sq 52 = some (.inr 7) from rfl) (by decide) rfl dL_law_828 mlL_89 (ms8_signs).1 (ms8_signs).2 (me8_signs) ⟨rfl, rfl⟩ ⟨Nat.le_of_ble_eq_true rfl, Nat.le_of_ble_eq_true rfl⟩ (Nat.le_of_ble_eq_true rfl) (Nat.le_of_ble_eq_true rfl) (Or.inl rfl) (Nat.le_refl _) (Nat.le_refl _) rfl (s8_signs F v3 S) (fun v4 S => ?_)
  refine sd_ic_eq (pc := 831) 1623 dL_law_831 (by decide) (fun _ => ?_) (fun _ => ?_)
  · refine sd_iinc (lf2 := [some (.ref 2), some (.ref 3), some (.ref 52), some (.int (l3 + 6))]) (pc := 1623) dL_law_1623 (Nat.le_of_ble_eq_true rfl) rfl ci_6 rfl ?_
    refine sd_goto (pc := 1626) 18 dL_law_1626 (by decide) ?_
    exact hc18 (l3 + 6) S
  · refine sd_iconst (pc := 834) 0 dL_law_834 ci_0 ?_
    exact sd_zret (pc := 835) dL_law_835 (by decide) (Nat.le_refl _) (Nat.le_refl _)
set_option maxHeartbeats 4000000 in
set_option maxRecDepth 20000 in
theorem sL_law_760 {N : Nat} (F : Nat) (c18 : Int32 → sm_t → Option (Int32 × sm_t)) (hc18 : ∀ (l3 : Int32) (S : sm_t), sm_S (sm_jI N) kL_law 67 4836 18 [some (.ref 2), some (.ref 3), some (.ref 52), some (.int l3)] [] (sm_m N S) (c18 l3 S)) (l3 : Int32) (S : sm_t) : sm_S (sm_jI N) kL_law 67 4836 760 [some (.ref 2), some (.ref 3), some (.ref 52), some (.int l3)] [] (sm_m N S) (xL_law_760 F N c18 l3 S) := by
  unfold xL_law_760
  refine sd_aload_n (pc := 760) dL_law_760 rfl ?_
  refine sd_aload_n (pc := 761) dL_law_761 rfl ?_
  refine sd_iload_n (pc := 762) dL_law_762 rfl ?_
  refine sd_iconst (pc := 763) 1 dL_law_763 ci_1 ?_
  refine sd_iadd (pc := 764) dL_law_764 ?_
  refine sd_sld (pc := 765) dL_law_765 (fun v1 => ?_)
  refine sd_aload_n (pc := 766) dL_law_766 rfl ?_
  refine sd_iload_n (pc := 767) dL_law_767 rfl ?_
  refine sd_iconst (pc := 768) 2 dL_law_768 ci_2 ?_
  refine sd_iadd (pc := 769) dL_law_769 ?_
  refine sd_sld (pc := 770) dL_law_770 (fun v2 => ?_)
  refine sd_aload_n (pc := 771) dL_law_771 rfl ?_
  refine sd_iload_n (pc := 772) dL_law_772 rfl ?_
  refine sd_iconst (pc := 773) 3 dL_law_773 ci_3 ?_
  refine sd_iadd (pc := 774) dL_law_774 ?_
  refine sd_sld (pc := 775) dL_law_775 (fun v3 => ?_)
  refine sd_aload_n (pc := 776) dL_law_776 rfl ?_
  refine sd_iload_n (pc := 777) dL_law_777 rfl ?_
  refine sd_iconst (pc := 778) 4 dL_law_778 ci_4 ?_
  refine sd_iadd (pc := 779) dL_law_779 ?_
  refine sd_sld (pc := 780) dL_law_780 (fun v4 => ?_)
  refine sd_cVI (k2 := k7_sign) (As := [.int v1, .int v2, .int v3, .int v4]) (rest := []) (b := 3) (ci := 6) (pc := 781) 81 (show sm_sq 3 = some (.inr 6) from rfl) (by decide) rfl dL_law_781 mlL_81 (ms7_sign).1 (ms7_sign).2 (me7_sign) ⟨rfl, rfl⟩ ⟨Nat.le_of_ble_eq_true rfl, Nat.le_of_ble_eq_true rfl⟩ (Nat.le_of_ble_eq_true rfl) (Nat.le_of_ble_eq_true rfl) (Or.inl rfl) (Nat.le_refl _) (Nat.le_refl _) rfl (s7_sign F v1 v2 v3 v4 S) (fun v5 S => ?_)
  refine sd_aload_n (pc := 784) dL_law_784 rfl ?_
  refine sd_aload_n (pc := 785) dL_law_785 rfl ?_
  refine sd_iload_n (pc := 786) dL_law_786 rfl ?_
  refine sd_iconst (pc := 787) 1 dL_law_787 ci_1 ?_
  refine sd_iadd (pc := 788) dL_law_788 ?_
  refine sd_sld (pc := 789) dL_law_789 (fun v6 => ?_)
  refine sd_aload_n (pc := 790) dL_law_790 rfl ?_
  refine sd_iload_n (pc := 791) dL_law_791 rfl ?_
  refine sd_iconst (pc := 792) 2 dL_law_792 ci_2 ?_
  refine sd_iadd (pc := 793) dL_law_793 ?_
  refine sd_sld (pc := 794) dL_law_794 (fun v7 => ?_)
  refine sd_aload_n (pc := 795) dL_law_795 rfl ?_
  refine sd_iload_n (pc := 796) dL_law_796 rfl ?_
  refine sd_iconst (pc := 797) 3 dL_law_797 ci_3 ?_
  refine sd_iadd (pc := 798) dL_law_798 ?_
  refine sd_sld (pc := 799) dL_law_799 (fun v8 => ?_)
  refine sd_aload_n (pc := 800) dL_law_800 rfl ?_
  refine sd_iload_n (pc := 801) dL_law_801 rfl ?_
  refine sd_iconst (pc := 802) 4 dL_law_802 ci_4 ?_
  refine sd_iadd (pc := 803) dL_law_803 ?_
  refine sd_sld (pc := 804) dL_law_804 (fun v9 => ?_)
  refine sd_cVI (k2 := k8_sign) (As := [.int v6, .int v7, .int v8, .int v9]) (rest := [.int v5]) (b := 52) (ci := 7) (pc := 805) 85 (show sm_sq 52 = some (.inr 7) from rfl) (by decide) rfl dL_law_805 mlL_85 (ms8_sign).1 (ms8_sign).2 (me8_sign) ⟨rfl, rfl⟩ ⟨Nat.le_of_ble_eq_true rfl, Nat.le_of_ble_eq_true rfl⟩ (Nat.le_of_ble_eq_true rfl) (Nat.le_of_ble_eq_true rfl) (Or.inl rfl) (Nat.le_refl _) (Nat.le_refl _) rfl (s8_sign F v6 v7 v8 v9 S) (fun v10 S => ?_)
  refine sd_ic_eq (pc := 808) 1623 dL_law_808 (by decide) (fun _ => ?_) (fun _ => ?_)
  · refine sd_iinc (lf2 := [some (.ref 2), some (.ref 3), some (.ref 52), some (.int (l3 + 6))]) (pc := 1623) dL_law_1623 (Nat.le_of_ble_eq_true rfl) rfl ci_6 rfl ?_
    refine sd_goto (pc := 1626) 18 dL_law_1626 (by decide) ?_
    exact hc18 (l3 + 6) S
  · refine sd_iconst (pc := 811) 0 dL_law_811 ci_0 ?_
    exact sd_zret (pc := 812) dL_law_812 (by decide) (Nat.le_refl _) (Nat.le_refl _)
set_option maxHeartbeats 4000000 in
set_option maxRecDepth 20000 in
theorem sL_law_727 {N : Nat} (F : Nat) (c18 : Int32 → sm_t → Option (Int32 × sm_t)) (hc18 : ∀ (l3 : Int32) (S : sm_t), sm_S (sm_jI N) kL_law 67 4836 18 [some (.ref 2), some (.ref 3), some (.ref 52), some (.int l3)] [] (sm_m N S) (c18 l3 S)) (l3 : Int32) (S : sm_t) : sm_S (sm_jI N) kL_law 67 4836 727 [some (.ref 2), some (.ref 3), some (.ref 52), some (.int l3)] [] (sm_m N S) (xL_law_727 F N c18 l3 S) := by
  unfold xL_law_727
  refine sd_aload_n (pc := 727) dL_law_727 rfl ?_
  refine sd_aload_n (pc := 728) dL_law_728 rfl ?_
  refine sd_iload_n (pc := 729) dL_law_729 rfl ?_
  refine sd_iconst (pc := 730) 1 dL_law_730 ci_1 ?_
  refine sd_iadd (pc := 731) dL_law_731 ?_
  refine sd_sld (pc := 732) dL_law_732 (fun v1 => ?_)
  refine sd_aload_n (pc := 733) dL_law_733 rfl ?_
  refine sd_iload_n (pc := 734) dL_law_734 rfl ?_
  refine sd_iconst (pc := 735) 2 dL_law_735 ci_2 ?_
  refine sd_iadd (pc := 736) dL_law_736 ?_
  refine sd_sld (pc := 737) dL_law_737 (fun v2 => ?_)
  refine sd_cVI (k2 := k7_far) (As := [.int v1, .int v2]) (rest := []) (b := 3) (ci := 6) (pc := 738) 77 (show sm_sq 3 = some (.inr 6) from rfl) (by decide) rfl dL_law_738 mlL_77 (ms7_far).1 (ms7_far).2 (me7_far) ⟨rfl, rfl⟩ ⟨Nat.le_of_ble_eq_true rfl, Nat.le_of_ble_eq_true rfl⟩ (Nat.le_of_ble_eq_true rfl) (Nat.le_of_ble_eq_true rfl) (Or.inl rfl) (Nat.le_refl _) (Nat.le_refl _) rfl (s7_far F v1 v2 S) (fun v3 S => ?_)
  refine sd_aload_n (pc := 741) dL_law_741 rfl ?_
  refine sd_aload_n (pc := 742) dL_law_742 rfl ?_
  refine sd_iload_n (pc := 743) dL_law_743 rfl ?_
  refine sd_iconst (pc := 744) 1 dL_law_744 ci_1 ?_
  refine sd_iadd (pc := 745) dL_law_745 ?_
  refine sd_sld (pc := 746) dL_law_746 (fun v4 => ?_)
  refine sd_aload_n (pc := 747) dL_law_747 rfl ?_
  refine sd_iload_n (pc := 748) dL_law_748 rfl ?_
  refine sd_iconst (pc := 749) 2 dL_law_749 ci_2 ?_
  refine sd_iadd (pc := 750) dL_law_750 ?_
  refine sd_sld (pc := 751) dL_law_751 (fun v5 => ?_)
  refine sd_cVI (k2 := k8_far) (As := [.int v4, .int v5]) (rest := [.int v3]) (b := 52) (ci := 7) (pc := 752) 80 (show sm_sq 52 = some (.inr 7) from rfl) (by decide) rfl dL_law_752 mlL_80 (ms8_far).1 (ms8_far).2 (me8_far) ⟨rfl, rfl⟩ ⟨Nat.le_of_ble_eq_true rfl, Nat.le_of_ble_eq_true rfl⟩ (Nat.le_of_ble_eq_true rfl) (Nat.le_of_ble_eq_true rfl) (Or.inl rfl) (Nat.le_refl _) (Nat.le_refl _) rfl (s8_far F v4 v5 S) (fun v6 S => ?_)
  refine sd_ic_eq (pc := 755) 1623 dL_law_755 (by decide) (fun _ => ?_) (fun _ => ?_)
  · refine sd_iinc (lf2 := [some (.ref 2), some (.ref 3), some (.ref 52), some (.int (l3 + 6))]) (pc := 1623) dL_law_1623 (Nat.le_of_ble_eq_true rfl) rfl ci_6 rfl ?_
    refine sd_goto (pc := 1626) 18 dL_law_1626 (by decide) ?_
    exact hc18 (l3 + 6) S
  · refine sd_iconst (pc := 758) 0 dL_law_758 ci_0 ?_
    exact sd_zret (pc := 759) dL_law_759 (by decide) (Nat.le_refl _) (Nat.le_refl _)
set_option maxHeartbeats 4000000 in
set_option maxRecDepth 20000 in
theorem sL_law_694 {N : Nat} (F : Nat) (c18 : Int32 → sm_t → Option (Int32 × sm_t)) (hc18 : ∀ (l3 : Int32) (S : sm_t), sm_S (sm_jI N) kL_law 67 4836 18 [some (.ref 2), some (.ref 3), some (.ref 52), some (.int l3)] [] (sm_m N S) (c18 l3 S)) (l3 : Int32) (S : sm_t) : sm_S (sm_jI N) kL_law 67 4836 694 [some (.ref 2), some (.ref 3), some (.ref 52), some (.int l3)] [] (sm_m N S) (xL_law_694 F N c18 l3 S) := by
  unfold xL_law_694
  refine sd_aload_n (pc := 694) dL_law_694 rfl ?_
  refine sd_aload_n (pc := 695) dL_law_695 rfl ?_
  refine sd_iload_n (pc := 696) dL_law_696 rfl ?_
  refine sd_iconst (pc := 697) 1 dL_law_697 ci_1 ?_
  refine sd_iadd (pc := 698) dL_law_698 ?_
  refine sd_sld (pc := 699) dL_law_699 (fun v1 => ?_)
  refine sd_aload_n (pc := 700) dL_law_700 rfl ?_
  refine sd_iload_n (pc := 701) dL_law_701 rfl ?_
  refine sd_iconst (pc := 702) 2 dL_law_702 ci_2 ?_
  refine sd_iadd (pc := 703) dL_law_703 ?_
  refine sd_sld (pc := 704) dL_law_704 (fun v2 => ?_)
  refine sd_cVI (k2 := k7_lies) (As := [.int v1, .int v2]) (rest := []) (b := 3) (ci := 6) (pc := 705) 73 (show sm_sq 3 = some (.inr 6) from rfl) (by decide) rfl dL_law_705 mlL_73 (ms7_lies).1 (ms7_lies).2 (me7_lies) ⟨rfl, rfl⟩ ⟨Nat.le_of_ble_eq_true rfl, Nat.le_of_ble_eq_true rfl⟩ (Nat.le_of_ble_eq_true rfl) (Nat.le_of_ble_eq_true rfl) (Or.inl rfl) (Nat.le_refl _) (Nat.le_refl _) rfl (s7_lies F v1 v2 S) (fun v3 S => ?_)
  refine sd_aload_n (pc := 708) dL_law_708 rfl ?_
  refine sd_aload_n (pc := 709) dL_law_709 rfl ?_
  refine sd_iload_n (pc := 710) dL_law_710 rfl ?_
  refine sd_iconst (pc := 711) 1 dL_law_711 ci_1 ?_
  refine sd_iadd (pc := 712) dL_law_712 ?_
  refine sd_sld (pc := 713) dL_law_713 (fun v4 => ?_)
  refine sd_aload_n (pc := 714) dL_law_714 rfl ?_
  refine sd_iload_n (pc := 715) dL_law_715 rfl ?_
  refine sd_iconst (pc := 716) 2 dL_law_716 ci_2 ?_
  refine sd_iadd (pc := 717) dL_law_717 ?_
  refine sd_sld (pc := 718) dL_law_718 (fun v5 => ?_)
  refine sd_cVI (k2 := k8_lies) (As := [.int v4, .int v5]) (rest := [.int v3]) (b := 52) (ci := 7) (pc := 719) 76 (show sm_sq 52 = some (.inr 7) from rfl) (by decide) rfl dL_law_719 mlL_76 (ms8_lies).1 (ms8_lies).2 (me8_lies) ⟨rfl, rfl⟩ ⟨Nat.le_of_ble_eq_true rfl, Nat.le_of_ble_eq_true rfl⟩ (Nat.le_of_ble_eq_true rfl) (Nat.le_of_ble_eq_true rfl) (Or.inl rfl) (Nat.le_refl _) (Nat.le_refl _) rfl (s8_lies F v4 v5 S) (fun v6 S => ?_)
  refine sd_ic_eq (pc := 722) 1623 dL_law_722 (by decide) (fun _ => ?_) (fun _ => ?_)
  · refine sd_iinc (lf2 := [some (.ref 2), some (.ref 3), some (.ref 52), some (.int (l3 + 6))]) (pc := 1623) dL_law_1623 (Nat.le_of_ble_eq_true rfl) rfl ci_6 rfl ?_
    refine sd_goto (pc := 1626) 18 dL_law_1626 (by decide) ?_
    exact hc18 (l3 + 6) S
  · refine sd_iconst (pc := 725) 0 dL_law_725 ci_0 ?_
    exact sd_zret (pc := 726) dL_law_726 (by decide) (Nat.le_refl _) (Nat.le_refl _)
set_option maxHeartbeats 4000000 in
set_option maxRecDepth 20000 in
theorem sL_law_661 {N : Nat} (F : Nat) (c18 : Int32 → sm_t → Option (Int32 × sm_t)) (hc18 : ∀ (l3 : Int32) (S : sm_t), sm_S (sm_jI N) kL_law 67 4836 18 [some (.ref 2), some (.ref 3), some (.ref 52), some (.int l3)] [] (sm_m N S) (c18 l3 S)) (l3 : Int32) (S : sm_t) : sm_S (sm_jI N) kL_law 67 4836 661 [some (.ref 2), some (.ref 3), some (.ref 52), some (.int l3)] [] (sm_m N S) (xL_law_661 F N c18 l3 S) := by
  unfold xL_law_661
  refine sd_aload_n (pc := 661) dL_law_661 rfl ?_
  refine sd_aload_n (pc := 662) dL_law_662 rfl ?_
  refine sd_iload_n (pc := 663) dL_law_663 rfl ?_
  refine sd_iconst (pc := 664) 1 dL_law_664 ci_1 ?_
  refine sd_iadd (pc := 665) dL_law_665 ?_
  refine sd_sld (pc := 666) dL_law_666 (fun v1 => ?_)
  refine sd_aload_n (pc := 667) dL_law_667 rfl ?_
  refine sd_iload_n (pc := 668) dL_law_668 rfl ?_
  refine sd_iconst (pc := 669) 2 dL_law_669 ci_2 ?_
  refine sd_iadd (pc := 670) dL_law_670 ?_
  refine sd_sld (pc := 671) dL_law_671 (fun v2 => ?_)
  refine sd_cVI (k2 := k7_story) (As := [.int v1, .int v2]) (rest := []) (b := 3) (ci := 6) (pc := 672) 69 (show sm_sq 3 = some (.inr 6) from rfl) (by decide) rfl dL_law_672 mlL_69 (ms7_story).1 (ms7_story).2 (me7_story) ⟨rfl, rfl⟩ ⟨Nat.le_of_ble_eq_true rfl, Nat.le_of_ble_eq_true rfl⟩ (Nat.le_of_ble_eq_true rfl) (Nat.le_of_ble_eq_true rfl) (Or.inl rfl) (Nat.le_refl _) (Nat.le_refl _) rfl (s7_story F v1 v2 S) (fun v3 S => ?_)
  refine sd_aload_n (pc := 675) dL_law_675 rfl ?_
  refine sd_aload_n (pc := 676) dL_law_676 rfl ?_
  refine sd_iload_n (pc := 677) dL_law_677 rfl ?_
  refine sd_iconst (pc := 678) 1 dL_law_678 ci_1 ?_
  refine sd_iadd (pc := 679) dL_law_679 ?_
  refine sd_sld (pc := 680) dL_law_680 (fun v4 => ?_)
  refine sd_aload_n (pc := 681) dL_law_681 rfl ?_
  refine sd_iload_n (pc := 682) dL_law_682 rfl ?_
  refine sd_iconst (pc := 683) 2 dL_law_683 ci_2 ?_
  refine sd_iadd (pc := 684) dL_law_684 ?_
  refine sd_sld (pc := 685) dL_law_685 (fun v5 => ?_)
  refine sd_cVI (k2 := k8_story) (As := [.int v4, .int v5]) (rest := [.int v3]) (b := 52) (ci := 7) (pc := 686) 72 (show sm_sq 52 = some (.inr 7) from rfl) (by decide) rfl dL_law_686 mlL_72 (ms8_story).1 (ms8_story).2 (me8_story) ⟨rfl, rfl⟩ ⟨Nat.le_of_ble_eq_true rfl, Nat.le_of_ble_eq_true rfl⟩ (Nat.le_of_ble_eq_true rfl) (Nat.le_of_ble_eq_true rfl) (Or.inl rfl) (Nat.le_refl _) (Nat.le_refl _) rfl (s8_story F v4 v5 S) (fun v6 S => ?_)
  refine sd_ic_eq (pc := 689) 1623 dL_law_689 (by decide) (fun _ => ?_) (fun _ => ?_)
  · refine sd_iinc (lf2 := [some (.ref 2), some (.ref 3), some (.ref 52), some (.int (l3 + 6))]) (pc := 1623) dL_law_1623 (Nat.le_of_ble_eq_true rfl) rfl ci_6 rfl ?_
    refine sd_goto (pc := 1626) 18 dL_law_1626 (by decide) ?_
    exact hc18 (l3 + 6) S
  · refine sd_iconst (pc := 692) 0 dL_law_692 ci_0 ?_
    exact sd_zret (pc := 693) dL_law_693 (by decide) (Nat.le_refl _) (Nat.le_refl _)
set_option maxHeartbeats 4000000 in
set_option maxRecDepth 20000 in
theorem sL_law_638 {N : Nat} (F : Nat) (c18 : Int32 → sm_t → Option (Int32 × sm_t)) (hc18 : ∀ (l3 : Int32) (S : sm_t), sm_S (sm_jI N) kL_law 67 4836 18 [some (.ref 2), some (.ref 3), some (.ref 52), some (.int l3)] [] (sm_m N S) (c18 l3 S)) (l3 : Int32) (S : sm_t) : sm_S (sm_jI N) kL_law 67 4836 638 [some (.ref 2), some (.ref 3), some (.ref 52), some (.int l3)] [] (sm_m N S) (xL_law_638 F N c18 l3 S) := by
  unfold xL_law_638
  refine sd_aload_n (pc := 638) dL_law_638 rfl ?_
  refine sd_aload_n (pc := 639) dL_law_639 rfl ?_
  refine sd_iload_n (pc := 640) dL_law_640 rfl ?_
  refine sd_iconst (pc := 641) 1 dL_law_641 ci_1 ?_
  refine sd_iadd (pc := 642) dL_law_642 ?_
  refine sd_sld (pc := 643) dL_law_643 (fun v1 => ?_)
  refine sd_cVI (k2 := k7_fault) (As := [.int v1]) (rest := []) (b := 3) (ci := 6) (pc := 644) 65 (show sm_sq 3 = some (.inr 6) from rfl) (by decide) rfl dL_law_644 mlL_65 (ms7_fault).1 (ms7_fault).2 (me7_fault) ⟨rfl, rfl⟩ ⟨Nat.le_of_ble_eq_true rfl, Nat.le_of_ble_eq_true rfl⟩ (Nat.le_of_ble_eq_true rfl) (Nat.le_of_ble_eq_true rfl) (Or.inl rfl) (Nat.le_refl _) (Nat.le_refl _) rfl (s7_fault F v1 S) (fun v2 S => ?_)
  refine sd_aload_n (pc := 647) dL_law_647 rfl ?_
  refine sd_aload_n (pc := 648) dL_law_648 rfl ?_
  refine sd_iload_n (pc := 649) dL_law_649 rfl ?_
  refine sd_iconst (pc := 650) 1 dL_law_650 ci_1 ?_
  refine sd_iadd (pc := 651) dL_law_651 ?_
  refine sd_sld (pc := 652) dL_law_652 (fun v3 => ?_)
  refine sd_cVI (k2 := k8_fault) (As := [.int v3]) (rest := [.int v2]) (b := 52) (ci := 7) (pc := 653) 68 (show sm_sq 52 = some (.inr 7) from rfl) (by decide) rfl dL_law_653 mlL_68 (ms8_fault).1 (ms8_fault).2 (me8_fault) ⟨rfl, rfl⟩ ⟨Nat.le_of_ble_eq_true rfl, Nat.le_of_ble_eq_true rfl⟩ (Nat.le_of_ble_eq_true rfl) (Nat.le_of_ble_eq_true rfl) (Or.inl rfl) (Nat.le_refl _) (Nat.le_refl _) rfl (s8_fault F v3 S) (fun v4 S => ?_)
  refine sd_ic_eq (pc := 656) 1623 dL_law_656 (by decide) (fun _ => ?_) (fun _ => ?_)
  · refine sd_iinc (lf2 := [some (.ref 2), some (.ref 3), some (.ref 52), some (.int (l3 + 6))]) (pc := 1623) dL_law_1623 (Nat.le_of_ble_eq_true rfl) rfl ci_6 rfl ?_
    refine sd_goto (pc := 1626) 18 dL_law_1626 (by decide) ?_
    exact hc18 (l3 + 6) S
  · refine sd_iconst (pc := 659) 0 dL_law_659 ci_0 ?_
    exact sd_zret (pc := 660) dL_law_660 (by decide) (Nat.le_refl _) (Nat.le_refl _)
set_option maxHeartbeats 4000000 in
set_option maxRecDepth 20000 in
theorem sL_law_615 {N : Nat} (F : Nat) (c18 : Int32 → sm_t → Option (Int32 × sm_t)) (hc18 : ∀ (l3 : Int32) (S : sm_t), sm_S (sm_jI N) kL_law 67 4836 18 [some (.ref 2), some (.ref 3), some (.ref 52), some (.int l3)] [] (sm_m N S) (c18 l3 S)) (l3 : Int32) (S : sm_t) : sm_S (sm_jI N) kL_law 67 4836 615 [some (.ref 2), some (.ref 3), some (.ref 52), some (.int l3)] [] (sm_m N S) (xL_law_615 F N c18 l3 S) := by
  unfold xL_law_615
  refine sd_aload_n (pc := 615) dL_law_615 rfl ?_
  refine sd_aload_n (pc := 616) dL_law_616 rfl ?_
  refine sd_iload_n (pc := 617) dL_law_617 rfl ?_
  refine sd_iconst (pc := 618) 1 dL_law_618 ci_1 ?_
  refine sd_iadd (pc := 619) dL_law_619 ?_
  refine sd_sld (pc := 620) dL_law_620 (fun v1 => ?_)
  refine sd_cVI (k2 := k7_plan) (As := [.int v1]) (rest := []) (b := 3) (ci := 6) (pc := 621) 61 (show sm_sq 3 = some (.inr 6) from rfl) (by decide) rfl dL_law_621 mlL_61 (ms7_plan).1 (ms7_plan).2 (me7_plan) ⟨rfl, rfl⟩ ⟨Nat.le_of_ble_eq_true rfl, Nat.le_of_ble_eq_true rfl⟩ (Nat.le_of_ble_eq_true rfl) (Nat.le_of_ble_eq_true rfl) (Or.inl rfl) (Nat.le_refl _) (Nat.le_refl _) rfl (s7_plan F v1 S) (fun v2 S => ?_)
  refine sd_aload_n (pc := 624) dL_law_624 rfl ?_
  refine sd_aload_n (pc := 625) dL_law_625 rfl ?_
  refine sd_iload_n (pc := 626) dL_law_626 rfl ?_
  refine sd_iconst (pc := 627) 1 dL_law_627 ci_1 ?_
  refine sd_iadd (pc := 628) dL_law_628 ?_
  refine sd_sld (pc := 629) dL_law_629 (fun v3 => ?_)
  refine sd_cVI (k2 := k8_plan) (As := [.int v3]) (rest := [.int v2]) (b := 52) (ci := 7) (pc := 630) 64 (show sm_sq 52 = some (.inr 7) from rfl) (by decide) rfl dL_law_630 mlL_64 (ms8_plan).1 (ms8_plan).2 (me8_plan) ⟨rfl, rfl⟩ ⟨Nat.le_of_ble_eq_true rfl, Nat.le_of_ble_eq_true rfl⟩ (Nat.le_of_ble_eq_true rfl) (Nat.le_of_ble_eq_true rfl) (Or.inl rfl) (Nat.le_refl _) (Nat.le_refl _) rfl (s8_plan F v3 S) (fun v4 S => ?_)
  refine sd_ic_eq (pc := 633) 1623 dL_law_633 (by decide) (fun _ => ?_) (fun _ => ?_)
  · refine sd_iinc (lf2 := [some (.ref 2), some (.ref 3), some (.ref 52), some (.int (l3 + 6))]) (pc := 1623) dL_law_1623 (Nat.le_of_ble_eq_true rfl) rfl ci_6 rfl ?_
    refine sd_goto (pc := 1626) 18 dL_law_1626 (by decide) ?_
    exact hc18 (l3 + 6) S
  · refine sd_iconst (pc := 636) 0 dL_law_636 ci_0 ?_
    exact sd_zret (pc := 637) dL_law_637 (by decide) (Nat.le_refl _) (Nat.le_refl _)
set_option maxHeartbeats 4000000 in
set_option maxRecDepth 20000 in
theorem sL_law_582 {N : Nat} (F : Nat) (c18 : Int32 → sm_t → Option (Int32 × sm_t)) (hc18 : ∀ (l3 : Int32) (S : sm_t), sm_S (sm_jI N) kL_law 67 4836 18 [some (.ref 2), some (.ref 3), some (.ref 52), some (.int l3)] [] (sm_m N S) (c18 l3 S)) (l3 : Int32) (S : sm_t) : sm_S (sm_jI N) kL_law 67 4836 582 [some (.ref 2), some (.ref 3), some (.ref 52), some (.int l3)] [] (sm_m N S) (xL_law_582 F N c18 l3 S) := by
  unfold xL_law_582
  refine sd_aload_n (pc := 582) dL_law_582 rfl ?_
  refine sd_aload_n (pc := 583) dL_law_583 rfl ?_
  refine sd_iload_n (pc := 584) dL_law_584 rfl ?_
  refine sd_iconst (pc := 585) 1 dL_law_585 ci_1 ?_
  refine sd_iadd (pc := 586) dL_law_586 ?_
  refine sd_sld (pc := 587) dL_law_587 (fun v1 => ?_)
  refine sd_aload_n (pc := 588) dL_law_588 rfl ?_
  refine sd_iload_n (pc := 589) dL_law_589 rfl ?_
  refine sd_iconst (pc := 590) 2 dL_law_590 ci_2 ?_
  refine sd_iadd (pc := 591) dL_law_591 ?_
  refine sd_sld (pc := 592) dL_law_592 (fun v2 => ?_)
  refine sd_cVI (k2 := k7_course) (As := [.int v1, .int v2]) (rest := []) (b := 3) (ci := 6) (pc := 593) 57 (show sm_sq 3 = some (.inr 6) from rfl) (by decide) rfl dL_law_593 mlL_57 (ms7_course).1 (ms7_course).2 (me7_course) ⟨rfl, rfl⟩ ⟨Nat.le_of_ble_eq_true rfl, Nat.le_of_ble_eq_true rfl⟩ (Nat.le_of_ble_eq_true rfl) (Nat.le_of_ble_eq_true rfl) (Or.inl rfl) (Nat.le_refl _) (Nat.le_refl _) rfl (s7_course F v1 v2 S) (fun v3 S => ?_)
  refine sd_aload_n (pc := 596) dL_law_596 rfl ?_
  refine sd_aload_n (pc := 597) dL_law_597 rfl ?_
  refine sd_iload_n (pc := 598) dL_law_598 rfl ?_
  refine sd_iconst (pc := 599) 1 dL_law_599 ci_1 ?_
  refine sd_iadd (pc := 600) dL_law_600 ?_
  refine sd_sld (pc := 601) dL_law_601 (fun v4 => ?_)
  refine sd_aload_n (pc := 602) dL_law_602 rfl ?_
  refine sd_iload_n (pc := 603) dL_law_603 rfl ?_
  refine sd_iconst (pc := 604) 2 dL_law_604 ci_2 ?_
  refine sd_iadd (pc := 605) dL_law_605 ?_
  refine sd_sld (pc := 606) dL_law_606 (fun v5 => ?_)
  refine sd_cVI (k2 := k8_course) (As := [.int v4, .int v5]) (rest := [.int v3]) (b := 52) (ci := 7) (pc := 607) 60 (show sm_sq 52 = some (.inr 7) from rfl) (by decide) rfl dL_law_607 mlL_60 (ms8_course).1 (ms8_course).2 (me8_course) ⟨rfl, rfl⟩ ⟨Nat.le_of_ble_eq_true rfl, Nat.le_of_ble_eq_true rfl⟩ (Nat.le_of_ble_eq_true rfl) (Nat.le_of_ble_eq_true rfl) (Or.inl rfl) (Nat.le_refl _) (Nat.le_refl _) rfl (s8_course F v4 v5 S) (fun v6 S => ?_)
  refine sd_ic_eq (pc := 610) 1623 dL_law_610 (by decide) (fun _ => ?_) (fun _ => ?_)
  · refine sd_iinc (lf2 := [some (.ref 2), some (.ref 3), some (.ref 52), some (.int (l3 + 6))]) (pc := 1623) dL_law_1623 (Nat.le_of_ble_eq_true rfl) rfl ci_6 rfl ?_
    refine sd_goto (pc := 1626) 18 dL_law_1626 (by decide) ?_
    exact hc18 (l3 + 6) S
  · refine sd_iconst (pc := 613) 0 dL_law_613 ci_0 ?_
    exact sd_zret (pc := 614) dL_law_614 (by decide) (Nat.le_refl _) (Nat.le_refl _)
set_option maxHeartbeats 4000000 in
set_option maxRecDepth 20000 in
theorem sL_law_559 {N : Nat} (F : Nat) (c18 : Int32 → sm_t → Option (Int32 × sm_t)) (hc18 : ∀ (l3 : Int32) (S : sm_t), sm_S (sm_jI N) kL_law 67 4836 18 [some (.ref 2), some (.ref 3), some (.ref 52), some (.int l3)] [] (sm_m N S) (c18 l3 S)) (l3 : Int32) (S : sm_t) : sm_S (sm_jI N) kL_law 67 4836 559 [some (.ref 2), some (.ref 3), some (.ref 52), some (.int l3)] [] (sm_m N S) (xL_law_559 F N c18 l3 S) := by
  unfold xL_law_559
  refine sd_aload_n (pc := 559) dL_law_559 rfl ?_
  refine sd_aload_n (pc := 560) dL_law_560 rfl ?_
  refine sd_iload_n (pc := 561) dL_law_561 rfl ?_
  refine sd_iconst (pc := 562) 1 dL_law_562 ci_1 ?_
  refine sd_iadd (pc := 563) dL_law_563 ?_
  refine sd_sld (pc := 564) dL_law_564 (fun v1 => ?_)
  refine sd_cVI (k2 := k7_ends) (As := [.int v1]) (rest := []) (b := 3) (ci := 6) (pc := 565) 53 (show sm_sq 3 = some (.inr 6) from rfl) (by decide) rfl dL_law_565 mlL_53 (ms7_ends).1 (ms7_ends).2 (me7_ends) ⟨rfl, rfl⟩ ⟨Nat.le_of_ble_eq_true rfl, Nat.le_of_ble_eq_true rfl⟩ (Nat.le_of_ble_eq_true rfl) (Nat.le_of_ble_eq_true rfl) (Or.inl rfl) (Nat.le_refl _) (Nat.le_refl _) rfl (s7_ends F v1 S) (fun v2 S => ?_)
  refine sd_aload_n (pc := 568) dL_law_568 rfl ?_
  refine sd_aload_n (pc := 569) dL_law_569 rfl ?_
  refine sd_iload_n (pc := 570) dL_law_570 rfl ?_
  refine sd_iconst (pc := 571) 1 dL_law_571 ci_1 ?_
  refine sd_iadd (pc := 572) dL_law_572 ?_
  refine sd_sld (pc := 573) dL_law_573 (fun v3 => ?_)
  refine sd_cVI (k2 := k8_ends) (As := [.int v3]) (rest := [.int v2]) (b := 52) (ci := 7) (pc := 574) 56 (show sm_sq 52 = some (.inr 7) from rfl) (by decide) rfl dL_law_574 mlL_56 (ms8_ends).1 (ms8_ends).2 (me8_ends) ⟨rfl, rfl⟩ ⟨Nat.le_of_ble_eq_true rfl, Nat.le_of_ble_eq_true rfl⟩ (Nat.le_of_ble_eq_true rfl) (Nat.le_of_ble_eq_true rfl) (Or.inl rfl) (Nat.le_refl _) (Nat.le_refl _) rfl (s8_ends F v3 S) (fun v4 S => ?_)
  refine sd_ic_eq (pc := 577) 1623 dL_law_577 (by decide) (fun _ => ?_) (fun _ => ?_)
  · refine sd_iinc (lf2 := [some (.ref 2), some (.ref 3), some (.ref 52), some (.int (l3 + 6))]) (pc := 1623) dL_law_1623 (Nat.le_of_ble_eq_true rfl) rfl ci_6 rfl ?_
    refine sd_goto (pc := 1626) 18 dL_law_1626 (by decide) ?_
    exact hc18 (l3 + 6) S
  · refine sd_iconst (pc := 580) 0 dL_law_580 ci_0 ?_
    exact sd_zret (pc := 581) dL_law_581 (by decide) (Nat.le_refl _) (Nat.le_refl _)
set_option maxHeartbeats 4000000 in
set_option maxRecDepth 20000 in
theorem sL_law_526 {N : Nat} (F : Nat) (c18 : Int32 → sm_t → Option (Int32 × sm_t)) (hc18 : ∀ (l3 : Int32) (S : sm_t), sm_S (sm_jI N) kL_law 67 4836 18 [some (.ref 2), some (.ref 3), some (.ref 52), some (.int l3)] [] (sm_m N S) (c18 l3 S)) (l3 : Int32) (S : sm_t) : sm_S (sm_jI N) kL_law 67 4836 526 [some (.ref 2), some (.ref 3), some (.ref 52), some (.int l3)] [] (sm_m N S) (xL_law_526 F N c18 l3 S) := by
  unfold xL_law_526
  refine sd_aload_n (pc := 526) dL_law_526 rfl ?_
  refine sd_aload_n (pc := 527) dL_law_527 rfl ?_
  refine sd_iload_n (pc := 528) dL_law_528 rfl ?_
  refine sd_iconst (pc := 529) 1 dL_law_529 ci_1 ?_
  refine sd_iadd (pc := 530) dL_law_530 ?_
  refine sd_sld (pc := 531) dL_law_531 (fun v1 => ?_)
  refine sd_aload_n (pc := 532) dL_law_532 rfl ?_
  refine sd_iload_n (pc := 533) dL_law_533 rfl ?_
  refine sd_iconst (pc := 534) 2 dL_law_534 ci_2 ?_
  refine sd_iadd (pc := 535) dL_law_535 ?_
  refine sd_sld (pc := 536) dL_law_536 (fun v2 => ?_)
  refine sd_cVI (k2 := k7_flight) (As := [.int v1, .int v2]) (rest := []) (b := 3) (ci := 6) (pc := 537) 49 (show sm_sq 3 = some (.inr 6) from rfl) (by decide) rfl dL_law_537 mlL_49 (ms7_flight).1 (ms7_flight).2 (me7_flight) ⟨rfl, rfl⟩ ⟨Nat.le_of_ble_eq_true rfl, Nat.le_of_ble_eq_true rfl⟩ (Nat.le_of_ble_eq_true rfl) (Nat.le_of_ble_eq_true rfl) (Or.inl rfl) (Nat.le_refl _) (Nat.le_refl _) rfl (s7_flight F v1 v2 S) (fun v3 S => ?_)
  refine sd_aload_n (pc := 540) dL_law_540 rfl ?_
  refine sd_aload_n (pc := 541) dL_law_541 rfl ?_
  refine sd_iload_n (pc := 542) dL_law_542 rfl ?_
  refine sd_iconst (pc := 543) 1 dL_law_543 ci_1 ?_
  refine sd_iadd (pc := 544) dL_law_544 ?_
  refine sd_sld (pc := 545) dL_law_545 (fun v4 => ?_)
  refine sd_aload_n (pc := 546) dL_law_546 rfl ?_
  refine sd_iload_n (pc := 547) dL_law_547 rfl ?_
  refine sd_iconst (pc := 548) 2 dL_law_548 ci_2 ?_
  refine sd_iadd (pc := 549) dL_law_549 ?_
  refine sd_sld (pc := 550) dL_law_550 (fun v5 => ?_)
  refine sd_cVI (k2 := k8_flight) (As := [.int v4, .int v5]) (rest := [.int v3]) (b := 52) (ci := 7) (pc := 551) 52 (show sm_sq 52 = some (.inr 7) from rfl) (by decide) rfl dL_law_551 mlL_52 (ms8_flight).1 (ms8_flight).2 (me8_flight) ⟨rfl, rfl⟩ ⟨Nat.le_of_ble_eq_true rfl, Nat.le_of_ble_eq_true rfl⟩ (Nat.le_of_ble_eq_true rfl) (Nat.le_of_ble_eq_true rfl) (Or.inl rfl) (Nat.le_refl _) (Nat.le_refl _) rfl (s8_flight F v4 v5 S) (fun v6 S => ?_)
  refine sd_ic_eq (pc := 554) 1623 dL_law_554 (by decide) (fun _ => ?_) (fun _ => ?_)
  · refine sd_iinc (lf2 := [some (.ref 2), some (.ref 3), some (.ref 52), some (.int (l3 + 6))]) (pc := 1623) dL_law_1623 (Nat.le_of_ble_eq_true rfl) rfl ci_6 rfl ?_
    refine sd_goto (pc := 1626) 18 dL_law_1626 (by decide) ?_
    exact hc18 (l3 + 6) S
  · refine sd_iconst (pc := 557) 0 dL_law_557 ci_0 ?_
    exact sd_zret (pc := 558) dL_law_558 (by decide) (Nat.le_refl _) (Nat.le_refl _)
set_option maxHeartbeats 4000000 in
set_option maxRecDepth 20000 in
theorem sL_law_483 {N : Nat} (F : Nat) (c18 : Int32 → sm_t → Option (Int32 × sm_t)) (hc18 : ∀ (l3 : Int32) (S : sm_t), sm_S (sm_jI N) kL_law 67 4836 18 [some (.ref 2), some (.ref 3), some (.ref 52), some (.int l3)] [] (sm_m N S) (c18 l3 S)) (l3 : Int32) (S : sm_t) : sm_S (sm_jI N) kL_law 67 4836 483 [some (.ref 2), some (.ref 3), some (.ref 52), some (.int l3)] [] (sm_m N S) (xL_law_483 F N c18 l3 S) := by
  unfold xL_law_483
  refine sd_aload_n (pc := 483) dL_law_483 rfl ?_
  refine sd_aload_n (pc := 484) dL_law_484 rfl ?_
  refine sd_iload_n (pc := 485) dL_law_485 rfl ?_
  refine sd_iconst (pc := 486) 1 dL_law_486 ci_1 ?_
  refine sd_iadd (pc := 487) dL_law_487 ?_
  refine sd_sld (pc := 488) dL_law_488 (fun v1 => ?_)
  refine sd_aload_n (pc := 489) dL_law_489 rfl ?_
  refine sd_iload_n (pc := 490) dL_law_490 rfl ?_
  refine sd_iconst (pc := 491) 2 dL_law_491 ci_2 ?_
  refine sd_iadd (pc := 492) dL_law_492 ?_
  refine sd_sld (pc := 493) dL_law_493 (fun v2 => ?_)
  refine sd_aload_n (pc := 494) dL_law_494 rfl ?_
  refine sd_iload_n (pc := 495) dL_law_495 rfl ?_
  refine sd_iconst (pc := 496) 3 dL_law_496 ci_3 ?_
  refine sd_iadd (pc := 497) dL_law_497 ?_
  refine sd_sld (pc := 498) dL_law_498 (fun v3 => ?_)
  refine sd_cVI (k2 := k7_put) (As := [.int v1, .int v2, .int v3]) (rest := []) (b := 3) (ci := 6) (pc := 499) 45 (show sm_sq 3 = some (.inr 6) from rfl) (by decide) rfl dL_law_499 mlL_45 (ms7_put).1 (ms7_put).2 (me7_put) ⟨rfl, rfl⟩ ⟨Nat.le_of_ble_eq_true rfl, Nat.le_of_ble_eq_true rfl⟩ (Nat.le_of_ble_eq_true rfl) (Nat.le_of_ble_eq_true rfl) (Or.inl rfl) (Nat.le_refl _) (Nat.le_refl _) rfl (s7_put F v1 v2 v3 S) (fun v4 S => ?_)
  refine sd_aload_n (pc := 502) dL_law_502 rfl ?_
  refine sd_aload_n (pc := 503) dL_law_503 rfl ?_
  refine sd_iload_n (pc := 504) dL_law_504 rfl ?_
  refine sd_iconst (pc := 505) 1 dL_law_505 ci_1 ?_
  refine sd_iadd (pc := 506) dL_law_506 ?_
  refine sd_sld (pc := 507) dL_law_507 (fun v5 => ?_)
  refine sd_aload_n (pc := 508) dL_law_508 rfl ?_
  refine sd_iload_n (pc := 509) dL_law_509 rfl ?_
  refine sd_iconst (pc := 510) 2 dL_law_510 ci_2 ?_
  refine sd_iadd (pc := 511) dL_law_511 ?_
  refine sd_sld (pc := 512) dL_law_512 (fun v6 => ?_)
  refine sd_aload_n (pc := 513) dL_law_513 rfl ?_
  refine sd_iload_n (pc := 514) dL_law_514 rfl ?_
  refine sd_iconst (pc := 515) 3 dL_law_515 ci_3 ?_
  refine sd_iadd (pc := 516) dL_law_516 ?_
  refine sd_sld (pc := 517) dL_law_517 (fun v7 => ?_)
  refine sd_cVI (k2 := k8_put) (As := [.int v5, .int v6, .int v7]) (rest := [.int v4]) (b := 52) (ci := 7) (pc := 518) 48 (show sm_sq 52 = some (.inr 7) from rfl) (by decide) rfl dL_law_518 mlL_48 (ms8_put).1 (ms8_put).2 (me8_put) ⟨rfl, rfl⟩ ⟨Nat.le_of_ble_eq_true rfl, Nat.le_of_ble_eq_true rfl⟩ (Nat.le_of_ble_eq_true rfl) (Nat.le_of_ble_eq_true rfl) (Or.inl rfl) (Nat.le_refl _) (Nat.le_refl _) rfl (s8_put F v5 v6 v7 S) (fun v8 S => ?_)
  refine sd_ic_eq (pc := 521) 1623 dL_law_521 (by decide) (fun _ => ?_) (fun _ => ?_)
  · refine sd_iinc (lf2 := [some (.ref 2), some (.ref 3), some (.ref 52), some (.int (l3 + 6))]) (pc := 1623) dL_law_1623 (Nat.le_of_ble_eq_true rfl) rfl ci_6 rfl ?_
    refine sd_goto (pc := 1626) 18 dL_law_1626 (by decide) ?_
    exact hc18 (l3 + 6) S
  · refine sd_iconst (pc := 524) 0 dL_law_524 ci_0 ?_
    exact sd_zret (pc := 525) dL_law_525 (by decide) (Nat.le_refl _) (Nat.le_refl _)
set_option maxHeartbeats 4000000 in
set_option maxRecDepth 20000 in
theorem sL_law_450 {N : Nat} (F : Nat) (c18 : Int32 → sm_t → Option (Int32 × sm_t)) (hc18 : ∀ (l3 : Int32) (S : sm_t), sm_S (sm_jI N) kL_law 67 4836 18 [some (.ref 2), some (.ref 3), some (.ref 52), some (.int l3)] [] (sm_m N S) (c18 l3 S)) (l3 : Int32) (S : sm_t) : sm_S (sm_jI N) kL_law 67 4836 450 [some (.ref 2), some (.ref 3), some (.ref 52), some (.int l3)] [] (sm_m N S) (xL_law_450 F N c18 l3 S) := by
  unfold xL_law_450
  refine sd_aload_n (pc := 450) dL_law_450 rfl ?_
  refine sd_aload_n (pc := 451) dL_law_451 rfl ?_
  refine sd_iload_n (pc := 452) dL_law_452 rfl ?_
  refine sd_iconst (pc := 453) 1 dL_law_453 ci_1 ?_
  refine sd_iadd (pc := 454) dL_law_454 ?_
  refine sd_sld (pc := 455) dL_law_455 (fun v1 => ?_)
  refine sd_aload_n (pc := 456) dL_law_456 rfl ?_
  refine sd_iload_n (pc := 457) dL_law_457 rfl ?_
  refine sd_iconst (pc := 458) 2 dL_law_458 ci_2 ?_
  refine sd_iadd (pc := 459) dL_law_459 ?_
  refine sd_sld (pc := 460) dL_law_460 (fun v2 => ?_)
  refine sd_cVI (k2 := k7_text) (As := [.int v1, .int v2]) (rest := []) (b := 3) (ci := 6) (pc := 461) 41 (show sm_sq 3 = some (.inr 6) from rfl) (by decide) rfl dL_law_461 mlL_41 (ms7_text).1 (ms7_text).2 (me7_text) ⟨rfl, rfl⟩ ⟨Nat.le_of_ble_eq_true rfl, Nat.le_of_ble_eq_true rfl⟩ (Nat.le_of_ble_eq_true rfl) (Nat.le_of_ble_eq_true rfl) (Or.inl rfl) (Nat.le_refl _) (Nat.le_refl _) rfl (s7_text F v1 v2 S) (fun v3 S => ?_)
  refine sd_aload_n (pc := 464) dL_law_464 rfl ?_
  refine sd_aload_n (pc := 465) dL_law_465 rfl ?_
  refine sd_iload_n (pc := 466) dL_law_466 rfl ?_
  refine sd_iconst (pc := 467) 1 dL_law_467 ci_1 ?_
  refine sd_iadd (pc := 468) dL_law_468 ?_
  refine sd_sld (pc := 469) dL_law_469 (fun v4 => ?_)
  refine sd_aload_n (pc := 470) dL_law_470 rfl ?_
  refine sd_iload_n (pc := 471) dL_law_471 rfl ?_
  refine sd_iconst (pc := 472) 2 dL_law_472 ci_2 ?_
  refine sd_iadd (pc := 473) dL_law_473 ?_
  refine sd_sld (pc := 474) dL_law_474 (fun v5 => ?_)
  refine sd_cVI (k2 := k8_text) (As := [.int v4, .int v5]) (rest := [.int v3]) (b := 52) (ci := 7) (pc := 475) 44 (show sm_sq 52 = some (.inr 7) from rfl) (by decide) rfl dL_law_475 mlL_44 (ms8_text).1 (ms8_text).2 (me8_text) ⟨rfl, rfl⟩ ⟨Nat.le_of_ble_eq_true rfl, Nat.le_of_ble_eq_true rfl⟩ (Nat.le_of_ble_eq_true rfl) (Nat.le_of_ble_eq_true rfl) (Or.inl rfl) (Nat.le_refl _) (Nat.le_refl _) rfl (s8_text F v4 v5 S) (fun v6 S => ?_)
  refine sd_ic_eq (pc := 478) 1623 dL_law_478 (by decide) (fun _ => ?_) (fun _ => ?_)
  · refine sd_iinc (lf2 := [some (.ref 2), some (.ref 3), some (.ref 52), some (.int (l3 + 6))]) (pc := 1623) dL_law_1623 (Nat.le_of_ble_eq_true rfl) rfl ci_6 rfl ?_
    refine sd_goto (pc := 1626) 18 dL_law_1626 (by decide) ?_
    exact hc18 (l3 + 6) S
  · refine sd_iconst (pc := 481) 0 dL_law_481 ci_0 ?_
    exact sd_zret (pc := 482) dL_law_482 (by decide) (Nat.le_refl _) (Nat.le_refl _)
set_option maxHeartbeats 4000000 in
set_option maxRecDepth 20000 in
theorem sL_law_427 {N : Nat} (F : Nat) (c18 : Int32 → sm_t → Option (Int32 × sm_t)) (hc18 : ∀ (l3 : Int32) (S : sm_t), sm_S (sm_jI N) kL_law 67 4836 18 [some (.ref 2), some (.ref 3), some (.ref 52), some (.int l3)] [] (sm_m N S) (c18 l3 S)) (l3 : Int32) (S : sm_t) : sm_S (sm_jI N) kL_law 67 4836 427 [some (.ref 2), some (.ref 3), some (.ref 52), some (.int l3)] [] (sm_m N S) (xL_law_427 F N c18 l3 S) := by
  unfold xL_law_427
  refine sd_aload_n (pc := 427) dL_law_427 rfl ?_
  refine sd_aload_n (pc := 428) dL_law_428 rfl ?_
  refine sd_iload_n (pc := 429) dL_law_429 rfl ?_
  refine sd_iconst (pc := 430) 1 dL_law_430 ci_1 ?_
  refine sd_iadd (pc := 431) dL_law_431 ?_
  refine sd_sld (pc := 432) dL_law_432 (fun v1 => ?_)
  refine sd_cVI (k2 := k7_mean) (As := [.int v1]) (rest := []) (b := 3) (ci := 6) (pc := 433) 37 (show sm_sq 3 = some (.inr 6) from rfl) (by decide) rfl dL_law_433 mlL_37 (ms7_mean).1 (ms7_mean).2 (me7_mean) ⟨rfl, rfl⟩ ⟨Nat.le_of_ble_eq_true rfl, Nat.le_of_ble_eq_true rfl⟩ (Nat.le_of_ble_eq_true rfl) (Nat.le_of_ble_eq_true rfl) (Or.inl rfl) (Nat.le_refl _) (Nat.le_refl _) rfl (s7_mean F v1 S) (fun v2 S => ?_)
  refine sd_aload_n (pc := 436) dL_law_436 rfl ?_
  refine sd_aload_n (pc := 437) dL_law_437 rfl ?_
  refine sd_iload_n (pc := 438) dL_law_438 rfl ?_
  refine sd_iconst (pc := 439) 1 dL_law_439 ci_1 ?_
  refine sd_iadd (pc := 440) dL_law_440 ?_
  refine sd_sld (pc := 441) dL_law_441 (fun v3 => ?_)
  refine sd_cVI (k2 := k8_mean) (As := [.int v3]) (rest := [.int v2]) (b := 52) (ci := 7) (pc := 442) 40 (show sm_sq 52 = some (.inr 7) from rfl) (by decide) rfl dL_law_442 mlL_40 (ms8_mean).1 (ms8_mean).2 (me8_mean) ⟨rfl, rfl⟩ ⟨Nat.le_of_ble_eq_true rfl, Nat.le_of_ble_eq_true rfl⟩ (Nat.le_of_ble_eq_true rfl) (Nat.le_of_ble_eq_true rfl) (Or.inl rfl) (Nat.le_refl _) (Nat.le_refl _) rfl (s8_mean F v3 S) (fun v4 S => ?_)
  refine sd_ic_eq (pc := 445) 1623 dL_law_445 (by decide) (fun _ => ?_) (fun _ => ?_)
  · refine sd_iinc (lf2 := [some (.ref 2), some (.ref 3), some (.ref 52), some (.int (l3 + 6))]) (pc := 1623) dL_law_1623 (Nat.le_of_ble_eq_true rfl) rfl ci_6 rfl ?_
    refine sd_goto (pc := 1626) 18 dL_law_1626 (by decide) ?_
    exact hc18 (l3 + 6) S
  · refine sd_iconst (pc := 448) 0 dL_law_448 ci_0 ?_
    exact sd_zret (pc := 449) dL_law_449 (by decide) (Nat.le_refl _) (Nat.le_refl _)
set_option maxHeartbeats 4000000 in
set_option maxRecDepth 20000 in
theorem sL_law_364 {N : Nat} (F : Nat) (c18 : Int32 → sm_t → Option (Int32 × sm_t)) (hc18 : ∀ (l3 : Int32) (S : sm_t), sm_S (sm_jI N) kL_law 67 4836 18 [some (.ref 2), some (.ref 3), some (.ref 52), some (.int l3)] [] (sm_m N S) (c18 l3 S)) (l3 : Int32) (S : sm_t) : sm_S (sm_jI N) kL_law 67 4836 364 [some (.ref 2), some (.ref 3), some (.ref 52), some (.int l3)] [] (sm_m N S) (xL_law_364 F N c18 l3 S) := by
  unfold xL_law_364
  refine sd_aload_n (pc := 364) dL_law_364 rfl ?_
  refine sd_aload_n (pc := 365) dL_law_365 rfl ?_
  refine sd_iload_n (pc := 366) dL_law_366 rfl ?_
  refine sd_iconst (pc := 367) 1 dL_law_367 ci_1 ?_
  refine sd_iadd (pc := 368) dL_law_368 ?_
  refine sd_sld (pc := 369) dL_law_369 (fun v1 => ?_)
  refine sd_aload_n (pc := 370) dL_law_370 rfl ?_
  refine sd_iload_n (pc := 371) dL_law_371 rfl ?_
  refine sd_iconst (pc := 372) 2 dL_law_372 ci_2 ?_
  refine sd_iadd (pc := 373) dL_law_373 ?_
  refine sd_sld (pc := 374) dL_law_374 (fun v2 => ?_)
  refine sd_aload_n (pc := 375) dL_law_375 rfl ?_
  refine sd_iload_n (pc := 376) dL_law_376 rfl ?_
  refine sd_iconst (pc := 377) 3 dL_law_377 ci_3 ?_
  refine sd_iadd (pc := 378) dL_law_378 ?_
  refine sd_sld (pc := 379) dL_law_379 (fun v3 => ?_)
  refine sd_aload_n (pc := 380) dL_law_380 rfl ?_
  refine sd_iload_n (pc := 381) dL_law_381 rfl ?_
  refine sd_iconst (pc := 382) 4 dL_law_382 ci_4 ?_
  refine sd_iadd (pc := 383) dL_law_383 ?_
  refine sd_sld (pc := 384) dL_law_384 (fun v4 => ?_)
  refine sd_aload_n (pc := 385) dL_law_385 rfl ?_
  refine sd_iload_n (pc := 386) dL_law_386 rfl ?_
  refine sd_iconst (pc := 387) 5 dL_law_387 ci_5 ?_
  refine sd_iadd (pc := 388) dL_law_388 ?_
  refine sd_sld (pc := 389) dL_law_389 (fun v5 => ?_)
  refine sd_cVI (k2 := k7_copy) (As := [.int v1, .int v2, .int v3, .int v4, .int v5]) (rest := []) (b := 3) (ci := 6) (pc := 390) 32 (show sm_sq 3 = some (.inr 6) from rfl) (by decide) rfl dL_law_390 mlL_32 (ms7_copy).1 (ms7_copy).2 (me7_copy) ⟨rfl, rfl⟩ ⟨Nat.le_of_ble_eq_true rfl, Nat.le_of_ble_eq_true rfl⟩ (Nat.le_of_ble_eq_true rfl) (Nat.le_of_ble_eq_true rfl) (Or.inl rfl) (Nat.le_refl _) (Nat.le_refl _) rfl (s7_copy F v1 v2 v3 v4 v5 S) (fun v6 S => ?_)
  refine sd_aload_n (pc := 393) dL_law_393 rfl ?_
  refine sd_aload_n (pc := 394) dL_law_394 rfl ?_
  refine sd_iload_n (pc := 395) dL_law_395 rfl ?_
  refine sd_iconst (pc := 396) 1 dL_law_396 ci_1 ?_
  refine sd_iadd (pc := 397) dL_law_397 ?_
  refine sd_sld (pc := 398) dL_law_398 (fun v7 => ?_)
  refine sd_aload_n (pc := 399) dL_law_399 rfl ?_
  refine sd_iload_n (pc := 400) dL_law_400 rfl ?_
  refine sd_iconst (pc := 401) 2 dL_law_401 ci_2 ?_
  refine sd_iadd (pc := 402) dL_law_402 ?_
  refine sd_sld (pc := 403) dL_law_403 (fun v8 => ?_)
  refine sd_aload_n (pc := 404) dL_law_404 rfl ?_
  refine sd_iload_n (pc := 405) dL_law_405 rfl ?_
  refine sd_iconst (pc := 406) 3 dL_law_406 ci_3 ?_
  refine sd_iadd (pc := 407) dL_law_407 ?_
  refine sd_sld (pc := 408) dL_law_408 (fun v9 => ?_)
  refine sd_aload_n (pc := 409) dL_law_409 rfl ?_
  refine sd_iload_n (pc := 410) dL_law_410 rfl ?_
  refine sd_iconst (pc := 411) 4 dL_law_411 ci_4 ?_
  refine sd_iadd (pc := 412) dL_law_412 ?_
  refine sd_sld (pc := 413) dL_law_413 (fun v10 => ?_)
  refine sd_aload_n (pc := 414) dL_law_414 rfl ?_
  refine sd_iload_n (pc := 415) dL_law_415 rfl ?_
  refine sd_iconst (pc := 416) 5 dL_law_416 ci_5 ?_
  refine sd_iadd (pc := 417) dL_law_417 ?_
  refine sd_sld (pc := 418) dL_law_418 (fun v11 => ?_)
  refine sd_cVI (k2 := k8_copy) (As := [.int v7, .int v8, .int v9, .int v10, .int v11]) (rest := [.int v6]) (b := 52) (ci := 7) (pc := 419) 36 (show sm_sq 52 = some (.inr 7) from rfl) (by decide) rfl dL_law_419 mlL_36 (ms8_copy).1 (ms8_copy).2 (me8_copy) ⟨rfl, rfl⟩ ⟨Nat.le_of_ble_eq_true rfl, Nat.le_of_ble_eq_true rfl⟩ (Nat.le_of_ble_eq_true rfl) (Nat.le_of_ble_eq_true rfl) (Or.inl rfl) (Nat.le_refl _) (Nat.le_refl _) rfl (s8_copy F v7 v8 v9 v10 v11 S) (fun v12 S => ?_)
  refine sd_ic_eq (pc := 422) 1623 dL_law_422 (by decide) (fun _ => ?_) (fun _ => ?_)
  · refine sd_iinc (lf2 := [some (.ref 2), some (.ref 3), some (.ref 52), some (.int (l3 + 6))]) (pc := 1623) dL_law_1623 (Nat.le_of_ble_eq_true rfl) rfl ci_6 rfl ?_
    refine sd_goto (pc := 1626) 18 dL_law_1626 (by decide) ?_
    exact hc18 (l3 + 6) S
  · refine sd_iconst (pc := 425) 0 dL_law_425 ci_0 ?_
    exact sd_zret (pc := 426) dL_law_426 (by decide) (Nat.le_refl _) (Nat.le_refl _)
set_option maxHeartbeats 4000000 in
set_option maxRecDepth 20000 in
theorem sL_law_341 {N : Nat} (F : Nat) (c18 : Int32 → sm_t → Option (Int32 × sm_t)) (hc18 : ∀ (l3 : Int32) (S : sm_t), sm_S (sm_jI N) kL_law 67 4836 18 [some (.ref 2), some (.ref 3), some (.ref 52), some (.int l3)] [] (sm_m N S) (c18 l3 S)) (l3 : Int32) (S : sm_t) : sm_S (sm_jI N) kL_law 67 4836 341 [some (.ref 2), some (.ref 3), some (.ref 52), some (.int l3)] [] (sm_m N S) (xL_law_341 F N c18 l3 S) := by
  unfold xL_law_341
  refine sd_aload_n (pc := 341) dL_law_341 rfl ?_
  refine sd_aload_n (pc := 342) dL_law_342 rfl ?_
  refine sd_iload_n (pc := 343) dL_law_343 rfl ?_
  refine sd_iconst (pc := 344) 1 dL_law_344 ci_1 ?_
  refine sd_iadd (pc := 345) dL_law_345 ?_
  refine sd_sld (pc := 346) dL_law_346 (fun v1 => ?_)
  refine sd_cVI (k2 := k7_tear) (As := [.int v1]) (rest := []) (b := 3) (ci := 6) (pc := 347) 27 (show sm_sq 3 = some (.inr 6) from rfl) (by decide) rfl dL_law_347 mlL_27 (ms7_tear).1 (ms7_tear).2 (me7_tear) ⟨rfl, rfl⟩ ⟨Nat.le_of_ble_eq_true rfl, Nat.le_of_ble_eq_true rfl⟩ (Nat.le_of_ble_eq_true rfl) (Nat.le_of_ble_eq_true rfl) (Or.inl rfl) (Nat.le_refl _) (Nat.le_refl _) rfl (s7_tear F v1 S) (fun v2 S => ?_)
  refine sd_aload_n (pc := 350) dL_law_350 rfl ?_
  refine sd_aload_n (pc := 351) dL_law_351 rfl ?_
  refine sd_iload_n (pc := 352) dL_law_352 rfl ?_
  refine sd_iconst (pc := 353) 1 dL_law_353 ci_1 ?_
  refine sd_iadd (pc := 354) dL_law_354 ?_
  refine sd_sld (pc := 355) dL_law_355 (fun v3 => ?_)
  refine sd_cVI (k2 := k8_tear) (As := [.int v3]) (rest := [.int v2]) (b := 52) (ci := 7) (pc := 356) 31 (show sm_sq 52 = some (.inr 7) from rfl) (by decide) rfl dL_law_356 mlL_31 (ms8_tear).1 (ms8_tear).2 (me8_tear) ⟨rfl, rfl⟩ ⟨Nat.le_of_ble_eq_true rfl, Nat.le_of_ble_eq_true rfl⟩ (Nat.le_of_ble_eq_true rfl) (Nat.le_of_ble_eq_true rfl) (Or.inl rfl) (Nat.le_refl _) (Nat.le_refl _) rfl (s8_tear F v3 S) (fun v4 S => ?_)
  refine sd_ic_eq (pc := 359) 1623 dL_law_359 (by decide) (fun _ => ?_) (fun _ => ?_)
  · refine sd_iinc (lf2 := [some (.ref 2), some (.ref 3), some (.ref 52), some (.int (l3 + 6))]) (pc := 1623) dL_law_1623 (Nat.le_of_ble_eq_true rfl) rfl ci_6 rfl ?_
    refine sd_goto (pc := 1626) 18 dL_law_1626 (by decide) ?_
    exact hc18 (l3 + 6) S
  · refine sd_iconst (pc := 362) 0 dL_law_362 ci_0 ?_
    exact sd_zret (pc := 363) dL_law_363 (by decide) (Nat.le_refl _) (Nat.le_refl _)
set_option maxHeartbeats 4000000 in
set_option maxRecDepth 20000 in
theorem sL_law_308 {N : Nat} (F : Nat) (c18 : Int32 → sm_t → Option (Int32 × sm_t)) (hc18 : ∀ (l3 : Int32) (S : sm_t), sm_S (sm_jI N) kL_law 67 4836 18 [some (.ref 2), some (.ref 3), some (.ref 52), some (.int l3)] [] (sm_m N S) (c18 l3 S)) (l3 : Int32) (S : sm_t) : sm_S (sm_jI N) kL_law 67 4836 308 [some (.ref 2), some (.ref 3), some (.ref 52), some (.int l3)] [] (sm_m N S) (xL_law_308 F N c18 l3 S) := by
  unfold xL_law_308
  refine sd_aload_n (pc := 308) dL_law_308 rfl ?_
  refine sd_aload_n (pc := 309) dL_law_309 rfl ?_
  refine sd_iload_n (pc := 310) dL_law_310 rfl ?_
  refine sd_iconst (pc := 311) 1 dL_law_311 ci_1 ?_
  refine sd_iadd (pc := 312) dL_law_312 ?_
  refine sd_sld (pc := 313) dL_law_313 (fun v1 => ?_)
  refine sd_aload_n (pc := 314) dL_law_314 rfl ?_
  refine sd_iload_n (pc := 315) dL_law_315 rfl ?_
  refine sd_iconst (pc := 316) 2 dL_law_316 ci_2 ?_
  refine sd_iadd (pc := 317) dL_law_317 ?_
  refine sd_sld (pc := 318) dL_law_318 (fun v2 => ?_)
  refine sd_cVI (k2 := k7_at) (As := [.int v1, .int v2]) (rest := []) (b := 3) (ci := 6) (pc := 319) 23 (show sm_sq 3 = some (.inr 6) from rfl) (by decide) rfl dL_law_319 mlL_23 (ms7_at).1 (ms7_at).2 (me7_at) ⟨rfl, rfl⟩ ⟨Nat.le_of_ble_eq_true rfl, Nat.le_of_ble_eq_true rfl⟩ (Nat.le_of_ble_eq_true rfl) (Nat.le_of_ble_eq_true rfl) (Or.inl rfl) (Nat.le_refl _) (Nat.le_refl _) rfl (s7_at F v1 v2 S) (fun v3 S => ?_)
  refine sd_aload_n (pc := 322) dL_law_322 rfl ?_
  refine sd_aload_n (pc := 323) dL_law_323 rfl ?_
  refine sd_iload_n (pc := 324) dL_law_324 rfl ?_
  refine sd_iconst (pc := 325) 1 dL_law_325 ci_1 ?_
  refine sd_iadd (pc := 326) dL_law_326 ?_
  refine sd_sld (pc := 327) dL_law_327 (fun v4 => ?_)
  refine sd_aload_n (pc := 328) dL_law_328 rfl ?_
  refine sd_iload_n (pc := 329) dL_law_329 rfl ?_
  refine sd_iconst (pc := 330) 2 dL_law_330 ci_2 ?_
  refine sd_iadd (pc := 331) dL_law_331 ?_
  refine sd_sld (pc := 332) dL_law_332 (fun v5 => ?_)
  refine sd_cVI (k2 := k8_at) (As := [.int v4, .int v5]) (rest := [.int v3]) (b := 52) (ci := 7) (pc := 333) 26 (show sm_sq 52 = some (.inr 7) from rfl) (by decide) rfl dL_law_333 mlL_26 (ms8_at).1 (ms8_at).2 (me8_at) ⟨rfl, rfl⟩ ⟨Nat.le_of_ble_eq_true rfl, Nat.le_of_ble_eq_true rfl⟩ (Nat.le_of_ble_eq_true rfl) (Nat.le_of_ble_eq_true rfl) (Or.inl rfl) (Nat.le_refl _) (Nat.le_refl _) rfl (s8_at F v4 v5 S) (fun v6 S => ?_)
  refine sd_ic_eq (pc := 336) 1623 dL_law_336 (by decide) (fun _ => ?_) (fun _ => ?_)
  · refine sd_iinc (lf2 := [some (.ref 2), some (.ref 3), some (.ref 52), some (.int (l3 + 6))]) (pc := 1623) dL_law_1623 (Nat.le_of_ble_eq_true rfl) rfl ci_6 rfl ?_
    refine sd_goto (pc := 1626) 18 dL_law_1626 (by decide) ?_
    exact hc18 (l3 + 6) S
  · refine sd_iconst (pc := 339) 0 dL_law_339 ci_0 ?_
    exact sd_zret (pc := 340) dL_law_340 (by decide) (Nat.le_refl _) (Nat.le_refl _)
set_option maxHeartbeats 4000000 in
set_option maxRecDepth 20000 in
theorem sL_law_265 {N : Nat} (F : Nat) (c18 : Int32 → sm_t → Option (Int32 × sm_t)) (hc18 : ∀ (l3 : Int32) (S : sm_t), sm_S (sm_jI N) kL_law 67 4836 18 [some (.ref 2), some (.ref 3), some (.ref 52), some (.int l3)] [] (sm_m N S) (c18 l3 S)) (l3 : Int32) (S : sm_t) : sm_S (sm_jI N) kL_law 67 4836 265 [some (.ref 2), some (.ref 3), some (.ref 52), some (.int l3)] [] (sm_m N S) (xL_law_265 F N c18 l3 S) := by
  unfold xL_law_265
  refine sd_aload_n (pc := 265) dL_law_265 rfl ?_
  refine sd_aload_n (pc := 266) dL_law_266 rfl ?_
  refine sd_iload_n (pc := 267) dL_law_267 rfl ?_
  refine sd_iconst (pc := 268) 1 dL_law_268 ci_1 ?_
  refine sd_iadd (pc := 269) dL_law_269 ?_
  refine sd_sld (pc := 270) dL_law_270 (fun v1 => ?_)
  refine sd_aload_n (pc := 271) dL_law_271 rfl ?_
  refine sd_iload_n (pc := 272) dL_law_272 rfl ?_
  refine sd_iconst (pc := 273) 2 dL_law_273 ci_2 ?_
  refine sd_iadd (pc := 274) dL_law_274 ?_
  refine sd_sld (pc := 275) dL_law_275 (fun v2 => ?_)
  refine sd_aload_n (pc := 276) dL_law_276 rfl ?_
  refine sd_iload_n (pc := 277) dL_law_277 rfl ?_
  refine sd_iconst (pc := 278) 3 dL_law_278 ci_3 ?_
  refine sd_iadd (pc := 279) dL_law_279 ?_
  refine sd_sld (pc := 280) dL_law_280 (fun v3 => ?_)
  refine sd_cVI (k2 := k7_lay) (As := [.int v1, .int v2, .int v3]) (rest := []) (b := 3) (ci := 6) (pc := 281) 18 (show sm_sq 3 = some (.inr 6) from rfl) (by decide) rfl dL_law_281 mlL_18 (ms7_lay).1 (ms7_lay).2 (me7_lay) ⟨rfl, rfl⟩ ⟨Nat.le_of_ble_eq_true rfl, Nat.le_of_ble_eq_true rfl⟩ (Nat.le_of_ble_eq_true rfl) (Nat.le_of_ble_eq_true rfl) (Or.inl rfl) (Nat.le_refl _) (Nat.le_refl _) rfl (s7_lay F v1 v2 v3 S) (fun v4 S => ?_)
  refine sd_aload_n (pc := 284) dL_law_284 rfl ?_
  refine sd_aload_n (pc := 285) dL_law_285 rfl ?_
  refine sd_iload_n (pc := 286) dL_law_286 rfl ?_
  refine sd_iconst (pc := 287) 1 dL_law_287 ci_1 ?_
  refine sd_iadd (pc := 288) dL_law_288 ?_
  refine sd_sld (pc := 289) dL_law_289 (fun v5 => ?_)
  refine sd_aload_n (pc := 290) dL_law_290 rfl ?_
  refine sd_iload_n (pc := 291) dL_law_291 rfl ?_
  refine sd_iconst (pc := 292) 2 dL_law_292 ci_2 ?_
  refine sd_iadd (pc := 293) dL_law_293 ?_
  refine sd_sld (pc := 294) dL_law_294 (fun v6 => ?_)
  refine sd_aload_n (pc := 295) dL_law_295 rfl ?_
  refine sd_iload_n (pc := 296) dL_law_296 rfl ?_
  refine sd_iconst (pc := 297) 3 dL_law_297 ci_3 ?_
  refine sd_iadd (pc := 298) dL_law_298 ?_
  refine sd_sld (pc := 299) dL_law_299 (fun v7 => ?_)
  refine sd_cVI (k2 := k8_lay) (As := [.int v5, .int v6, .int v7]) (rest := [.int v4]) (b := 52) (ci := 7) (pc := 300) 22 (show sm_sq 52 = some (.inr 7) from rfl) (by decide) rfl dL_law_300 mlL_22 (ms8_lay).1 (ms8_lay).2 (me8_lay) ⟨rfl, rfl⟩ ⟨Nat.le_of_ble_eq_true rfl, Nat.le_of_ble_eq_true rfl⟩ (Nat.le_of_ble_eq_true rfl) (Nat.le_of_ble_eq_true rfl) (Or.inl rfl) (Nat.le_refl _) (Nat.le_refl _) rfl (s8_lay F v5 v6 v7 S) (fun v8 S => ?_)
  refine sd_ic_eq (pc := 303) 1623 dL_law_303 (by decide) (fun _ => ?_) (fun _ => ?_)
  · refine sd_iinc (lf2 := [some (.ref 2), some (.ref 3), some (.ref 52), some (.int (l3 + 6))]) (pc := 1623) dL_law_1623 (Nat.le_of_ble_eq_true rfl) rfl ci_6 rfl ?_
    refine sd_goto (pc := 1626) 18 dL_law_1626 (by decide) ?_
    exact hc18 (l3 + 6) S
  · refine sd_iconst (pc := 306) 0 dL_law_306 ci_0 ?_
    exact sd_zret (pc := 307) dL_law_307 (by decide) (Nat.le_refl _) (Nat.le_refl _)
set_option maxHeartbeats 4000000 in
set_option maxRecDepth 20000 in
theorem sL_law_232 {N : Nat} (F : Nat) (c18 : Int32 → sm_t → Option (Int32 × sm_t)) (hc18 : ∀ (l3 : Int32) (S : sm_t), sm_S (sm_jI N) kL_law 67 4836 18 [some (.ref 2), some (.ref 3), some (.ref 52), some (.int l3)] [] (sm_m N S) (c18 l3 S)) (l3 : Int32) (S : sm_t) : sm_S (sm_jI N) kL_law 67 4836 232 [some (.ref 2), some (.ref 3), some (.ref 52), some (.int l3)] [] (sm_m N S) (xL_law_232 F N c18 l3 S) := by
  unfold xL_law_232
  refine sd_aload_n (pc := 232) dL_law_232 rfl ?_
  refine sd_aload_n (pc := 233) dL_law_233 rfl ?_
  refine sd_iload_n (pc := 234) dL_law_234 rfl ?_
  refine sd_iconst (pc := 235) 1 dL_law_235 ci_1 ?_
  refine sd_iadd (pc := 236) dL_law_236 ?_
  refine sd_sld (pc := 237) dL_law_237 (fun v1 => ?_)
  refine sd_aload_n (pc := 238) dL_law_238 rfl ?_
  refine sd_iload_n (pc := 239) dL_law_239 rfl ?_
  refine sd_iconst (pc := 240) 2 dL_law_240 ci_2 ?_
  refine sd_iadd (pc := 241) dL_law_241 ?_
  refine sd_sld (pc := 242) dL_law_242 (fun v2 => ?_)
  refine sd_cVI (k2 := k7_row) (As := [.int v1, .int v2]) (rest := []) (b := 3) (ci := 6) (pc := 243) 13 (show sm_sq 3 = some (.inr 6) from rfl) (by decide) rfl dL_law_243 mlL_13 (ms7_row).1 (ms7_row).2 (me7_row) ⟨rfl, rfl⟩ ⟨Nat.le_of_ble_eq_true rfl, Nat.le_of_ble_eq_true rfl⟩ (Nat.le_of_ble_eq_true rfl) (Nat.le_of_ble_eq_true rfl) (Or.inl rfl) (Nat.le_refl _) (Nat.le_refl _) rfl (s7_row F v1 v2 S) (fun v3 S => ?_)
  refine sd_aload_n (pc := 246) dL_law_246 rfl ?_
  refine sd_aload_n (pc := 247) dL_law_247 rfl ?_
  refine sd_iload_n (pc := 248) dL_law_248 rfl ?_
  refine sd_iconst (pc := 249) 1 dL_law_249 ci_1 ?_
  refine sd_iadd (pc := 250) dL_law_250 ?_
  refine sd_sld (pc := 251) dL_law_251 (fun v4 => ?_)
  refine sd_aload_n (pc := 252) dL_law_252 rfl ?_
  refine sd_iload_n (pc := 253) dL_law_253 rfl ?_
  refine sd_iconst (pc := 254) 2 dL_law_254 ci_2 ?_
  refine sd_iadd (pc := 255) dL_law_255 ?_
  refine sd_sld (pc := 256) dL_law_256 (fun v5 => ?_)
  refine sd_cVI (k2 := k8_row) (As := [.int v4, .int v5]) (rest := [.int v3]) (b := 52) (ci := 7) (pc := 257) 17 (show sm_sq 52 = some (.inr 7) from rfl) (by decide) rfl dL_law_257 mlL_17 (ms8_row).1 (ms8_row).2 (me8_row) ⟨rfl, rfl⟩ ⟨Nat.le_of_ble_eq_true rfl, Nat.le_of_ble_eq_true rfl⟩ (Nat.le_of_ble_eq_true rfl) (Nat.le_of_ble_eq_true rfl) (Or.inl rfl) (Nat.le_refl _) (Nat.le_refl _) rfl (s8_row F v4 v5 S) (fun v6 S => ?_)
  refine sd_ic_eq (pc := 260) 1623 dL_law_260 (by decide) (fun _ => ?_) (fun _ => ?_)
  · refine sd_iinc (lf2 := [some (.ref 2), some (.ref 3), some (.ref 52), some (.int (l3 + 6))]) (pc := 1623) dL_law_1623 (Nat.le_of_ble_eq_true rfl) rfl ci_6 rfl ?_
    refine sd_goto (pc := 1626) 18 dL_law_1626 (by decide) ?_
    exact hc18 (l3 + 6) S
  · refine sd_iconst (pc := 263) 0 dL_law_263 ci_0 ?_
    exact sd_zret (pc := 264) dL_law_264 (by decide) (Nat.le_refl _) (Nat.le_refl _)
set_option maxHeartbeats 4000000 in
set_option maxRecDepth 20000 in
theorem sL_law_18 {N : Nat} (F : Nat) : ∀ (f : Nat) (l3 : Int32) (S : sm_t), sm_S (sm_jI N) kL_law 67 4836 18 [some (.ref 2), some (.ref 3), some (.ref 52), some (.int l3)] [] (sm_m N S) (xL_law_18 F N f l3 S) := by
  intro f
  induction f with
  | zero =>
    intro l3 S
    exact sd_none
  | succ f ih =>
    intro l3 S
    rw [xL_law_18]
    refine sd_iload_n (pc := 18) dL_law_18 rfl ?_
    refine sd_aload_n (pc := 19) dL_law_19 rfl ?_
    refine sd_slen (pc := 20) dL_law_20 ?_
    refine sd_bipush (pc := 21) 6 dL_law_21 cb_6 ?_
    refine sd_isub (pc := 23) dL_law_23 ?_
    refine sd_ic_gt (pc := 24) 1629 dL_law_24 (by decide) (fun _ => ?_) (fun _ => ?_)
    · refine sd_iconst (pc := 1629) 1 dL_law_1629 ci_1 ?_
      exact sd_zret (pc := 1630) dL_law_1630 (by decide) (Nat.le_refl _) (Nat.le_refl _)
    · refine sd_aload_n (pc := 27) dL_law_27 rfl ?_
      refine sd_iload_n (pc := 28) dL_law_28 rfl ?_
      refine sd_sld (pc := 29) dL_law_29 (fun v1 => ?_)
      refine sd_bipush (pc := 30) 63 dL_law_30 cb_63 ?_
      refine sd_iand (pc := 32) dL_law_32 ?_
      refine sd_ni (fun v2 => ?_)
      refine sd_ite (fun h3 => ?_) (fun _ => ?_)
      · refine sd_swo (pc := 33) 1623 dL_law_33 (sm_so (by decide) (by decide) h3) (by decide) ?_
        refine sd_iinc (lf2 := [some (.ref 2), some (.ref 3), some (.ref 52), some (.int (l3 + 6))]) (pc := 1623) dL_law_1623 (Nat.le_of_ble_eq_true rfl) rfl ci_6 rfl ?_
        refine sd_goto (pc := 1626) 18 dL_law_1626 (by decide) ?_
        exact ih (l3 + 6) S
      refine sd_ite (fun h4 => ?_) (fun _ => ?_)
      · refine sd_swi (off := 199) (pc := 33) 232 dL_law_33 (by rw [h4]; decide) (by rw [h4]; decide) (by rw [h4]; decide) (by decide) ?_
        exact sL_law_232 F _ ih l3 S
      refine sd_ite (fun h5 => ?_) (fun _ => ?_)
      · refine sd_swi (off := 232) (pc := 33) 265 dL_law_33 (by rw [h5]; decide) (by rw [h5]; decide) (by rw [h5]; decide) (by decide) ?_
        exact sL_law_265 F _ ih l3 S
      refine sd_ite (fun h6 => ?_) (fun _ => ?_)
      · refine sd_swi (off := 275) (pc := 33) 308 dL_law_33 (by rw [h6]; decide) (by rw [h6]; decide) (by rw [h6]; decide) (by decide) ?_
        exact sL_law_308 F _ ih l3 S
      refine sd_ite (fun h7 => ?_) (fun _ => ?_)
      · refine sd_swi (off := 308) (pc := 33) 341 dL_law_33 (by rw [h7]; decide) (by rw [h7]; decide) (by rw [h7]; decide) (by decide) ?_
        exact sL_law_341 F _ ih l3 S
      refine sd_ite (fun h8 => ?_) (fun _ => ?_)
      · refine sd_swi (off := 331) (pc := 33) 364 dL_law_33 (by rw [h8]; decide) (by rw [h8]; decide) (by rw [h8]; decide) (by decide) ?_
        exact sL_law_364 F _ ih l3 S
      refine sd_ite (fun h9 => ?_) (fun _ => ?_)
      · refine sd_swi (off := 394) (pc := 33) 427 dL_law_33 (by rw [h9]; decide) (by rw [h9]; decide) (by rw [h9]; decide) (by decide) ?_
        exact sL_law_427 F _ ih l3 S
      refine sd_ite (fun h10 => ?_) (fun _ => ?_)
      · refine sd_swi (off := 417) (pc := 33) 450 dL_law_33 (by rw [h10]; decide) (by rw [h10]; decide) (by rw [h10]; decide) (by decide) ?_
        exact sL_law_450 F _ ih l3 S
      refine sd_ite (fun h11 => ?_) (fun _ => ?_)
      · refine sd_swi (off := 450) (pc := 33) 483 dL_law_33 (by rw [h11]; decide) (by rw [h11]; decide) (by rw [h11]; decide) (by decide) ?_
        exact sL_law_483 F _ ih l3 S
      refine sd_ite (fun h12 => ?_) (fun _ => ?_)
      · refine sd_swi (off := 493) (pc := 33) 526 dL_law_33 (by rw [h12]; decide) (by rw [h12]; decide) (by rw [h12]; decide) (by decide) ?_
        exact sL_law_526 F _ ih l3 S
      refine sd_ite (fun h13 => ?_) (fun _ => ?_)
      · refine sd_swi (off := 526) (pc := 33) 559 dL_law_33 (by rw [h13]; decide) (by rw [h13]; decide) (by rw [h13]; decide) (by decide) ?_
        exact sL_law_559 F _ ih l3 S
      refine sd_ite (fun h14 => ?_) (fun _ => ?_)
      · refine sd_swi (off := 549) (pc := 33) 582 dL_law_33 (by rw [h14]; decide) (by rw [h14]; decide) (by rw [h14]; decide) (by decide) ?_
        exact sL_law_582 F _ ih l3 S
      refine sd_ite (fun h15 => ?_) (fun _ => ?_)
      · refine sd_swi (off := 582) (pc := 33) 615 dL_law_33 (by rw [h15]; decide) (by rw [h15]; decide) (by rw [h15]; decide) (by decide) ?_
        exact sL_law_615 F _ ih l3 S
      refine sd_ite (fun h16 => ?_) (fun _ => ?_)
      · refine sd_swi (off := 605) (pc := 33) 638 dL_law_33 (by rw [h16]; decide) (by rw [h16]; decide) (by rw [h16]; decide) (by decide) ?_
        exact sL_law_638 F _ ih l3 S
      refine sd_ite (fun h17 => ?_) (fun _ => ?_)
      · refine sd_swi (off := 628) (pc := 33) 661 dL_law_33 (by rw [h17]; decide) (by rw [h17]; decide) (by rw [h17]; decide) (by decide) ?_
        exact sL_law_661 F _ ih l3 S
      refine sd_ite (fun h18 => ?_) (fun _ => ?_)
      · refine sd_swi (off := 661) (pc := 33) 694 dL_law_33 (by rw [h18]; decide) (by rw [h18]; decide) (by rw [h18]; decide) (by decide) ?_
        exact sL_law_694 F _ ih l3 S
      refine sd_ite (fun h19 => ?_) (fun _ => ?_)
      · refine sd_swi (off := 694) (pc := 33) 727 dL_law_33 (by rw [h19]; decide) (by rw [h19]; decide) (by rw [h19]; decide) (by decide) ?_
        exact sL_law_727 F _ ih l3 S
      refine sd_ite (fun h20 => ?_) (fun _ => ?_)
      · refine sd_swi (off := 727) (pc := 33) 760 dL_law_33 (by rw [h20]; decide) (by rw [h20]; decide) (by rw [h20]; decide) (by decide) ?_
        exact sL_law_760 F _ ih l3 S
      refine sd_ite (fun h21 => ?_) (fun _ => ?_)
      · refine sd_swi (off := 780) (pc := 33) 813 dL_law_33 (by rw [h21]; decide) (by rw [h21]; decide) (by rw [h21]; decide) (by decide) ?_
        exact sL_law_813 F _ ih l3 S
      refine sd_ite (fun h22 => ?_) (fun _ => ?_)
      · refine sd_swi (off := 803) (pc := 33) 836 dL_law_33 (by rw [h22]; decide) (by rw [h22]; decide) (by rw [h22]; decide) (by decide) ?_
        exact sL_law_836 F _ ih l3 S
      refine sd_ite (fun h23 => ?_) (fun _ => ?_)
      · refine sd_swi (off := 836) (pc := 33) 869 dL_law_33 (by rw [h23]; decide) (by rw [h23]; decide) (by rw [h23]; decide) (by decide) ?_
        exact sL_law_869 F _ ih l3 S
      refine sd_ite (fun h24 => ?_) (fun _ => ?_)
      · refine sd_swi (off := 869) (pc := 33) 902 dL_law_33 (by rw [h24]; decide) (by rw [h24]; decide) (by rw [h24]; decide) (by decide) ?_
        exact sL_law_902 F _ ih l3 S
      refine sd_ite (fun h25 => ?_) (fun _ => ?_)
      · refine sd_swi (off := 902) (pc := 33) 935 dL_law_33 (by rw [h25]; decide) (by rw [h25]; decide) (by rw [h25]; decide) (by decide) ?_
        exact sL_law_935 F _ ih l3 S
      refine sd_ite (fun h26 => ?_) (fun _ => ?_)
      · refine sd_swi (off := 935) (pc := 33) 968 dL_law_33 (by rw [h26]; decide) (by rw [h26]; decide) (by rw [h26]; decide) (by decide) ?_
        exact sL_law_968 F _ ih l3 S
      refine sd_ite (fun h27 => ?_) (fun _ => ?_)
      · refine sd_swi (off := 958) (pc := 33) 991 dL_law_33 (by rw [h27]; decide) (by rw [h27]; decide) (by rw [h27]; decide) (by decide) ?_
        exact sL_law_991 F _ ih l3 S
      refine sd_ite (fun h28 => ?_) (fun _ => ?_)
      · refine sd_swi (off := 991) (pc := 33) 1024 dL_law_33 (by rw [h28]; decide) (by rw [h28]; decide) (by rw [h28]; decide) (by decide) ?_
        exact sL_law_1024 F _ ih l3 S
      refine sd_ite (fun h29 => ?_) (fun _ => ?_)
      · refine sd_swi (off := 1014) (pc := 33) 1047 dL_law_33 (by rw [h29]; decide) (by rw [h29]; decide) (by rw [h29]; decide) (by decide) ?_
        exact sL_law_1047 F _ ih l3 S
      refine sd_ite (fun h30 => ?_) (fun _ => ?_)
      · refine sd_swi (off := 1057) (pc := 33) 1090 dL_law_33 (by rw [h30]; decide) (by rw [h30]; decide) (by rw [h30]; decide) (by decide) ?_
        exact sL_law_1090 F _ ih l3 S
      refine sd_ite (fun h31 => ?_) (fun _ => ?_)
      · refine sd_swi (off := 1090) (pc := 33) 1123 dL_law_33 (by rw [h31]; decide) (by rw [h31]; decide) (by rw [h31]; decide) (by decide) ?_
        exact sL_law_1123 F _ ih l3 S
      refine sd_ite (fun h32 => ?_) (fun _ => ?_)
      · refine sd_swi (off := 1113) (pc := 33) 1146 dL_law_33 (by rw [h32]; decide) (by rw [h32]; decide) (by rw [h32]; decide) (by decide) ?_
        exact sL_law_1146 F _ ih l3 S
      refine sd_ite (fun h33 => ?_) (fun _ => ?_)
      · refine sd_swi (off := 1156) (pc := 33) 1189 dL_law_33 (by rw [h33]; decide) (by rw [h33]; decide) (by rw [h33]; decide) (by decide) ?_
        exact sL_law_1189 F _ ih l3 S
      refine sd_ite (fun h34 => ?_) (fun _ => ?_)
      · refine sd_swi (off := 1179) (pc := 33) 1212 dL_law_33 (by rw [h34]; decide) (by rw [h34]; decide) (by rw [h34]; decide) (by decide) ?_
        exact sL_law_1212 F _ ih l3 S
      refine sd_ite (fun h35 => ?_) (fun _ => ?_)
      · refine sd_swi (off := 1212) (pc := 33) 1245 dL_law_33 (by rw [h35]; decide) (by rw [h35]; decide) (by rw [h35]; decide) (by decide) ?_
        exact sL_law_1245 F _ ih l3 S
      refine sd_ite (fun h36 => ?_) (fun _ => ?_)
      · refine sd_swi (off := 1235) (pc := 33) 1268 dL_law_33 (by rw [h36]; decide) (by rw [h36]; decide) (by rw [h36]; decide) (by decide) ?_
        exact sL_law_1268 F _ ih l3 S
      refine sd_ite (fun h37 => ?_) (fun _ => ?_)
      · refine sd_swi (off := 1268) (pc := 33) 1301 dL_law_33 (by rw [h37]; decide) (by rw [h37]; decide) (by rw [h37]; decide) (by decide) ?_
        exact sL_law_1301 F _ ih l3 S
      refine sd_ite (fun h38 => ?_) (fun _ => ?_)
      · refine sd_swi (off := 1311) (pc := 33) 1344 dL_law_33 (by rw [h38]; decide) (by rw [h38]; decide) (by rw [h38]; decide) (by decide) ?_
        exact sL_law_1344 F _ ih l3 S
      refine sd_ite (fun h39 => ?_) (fun _ => ?_)
      · refine sd_swi (off := 1364) (pc := 33) 1397 dL_law_33 (by rw [h39]; decide) (by rw [h39]; decide) (by rw [h39]; decide) (by decide) ?_
        exact sL_law_1397 F _ ih l3 S
      refine sd_ite (fun h40 => ?_) (fun _ => ?_)
      · refine sd_swi (off := 1397) (pc := 33) 1430 dL_law_33 (by rw [h40]; decide) (by rw [h40]; decide) (by rw [h40]; decide) (by decide) ?_
        exact sL_law_1430 F _ ih l3 S
      refine sd_ite (fun h41 => ?_) (fun _ => ?_)
      · refine sd_swi (off := 1430) (pc := 33) 1463 dL_law_33 (by rw [h41]; decide) (by rw [h41]; decide) (by rw [h41]; decide) (by decide) ?_
        exact sL_law_1463 F _ ih l3 S
      refine sd_ite (fun h42 => ?_) (fun _ => ?_)
      · refine sd_swi (off := 1453) (pc := 33) 1486 dL_law_33 (by rw [h42]; decide) (by rw [h42]; decide) (by rw [h42]; decide) (by decide) ?_
        exact sL_law_1486 F _ ih l3 S
      refine sd_ite (fun h43 => ?_) (fun _ => ?_)
      · refine sd_swi (off := 1476) (pc := 33) 1509 dL_law_33 (by rw [h43]; decide) (by rw [h43]; decide) (by rw [h43]; decide) (by decide) ?_
        exact sL_law_1509 F _ ih l3 S
      refine sd_ite (fun h44 => ?_) (fun _ => ?_)
      · refine sd_swi (off := 1489) (pc := 33) 1522 dL_law_33 (by rw [h44]; decide) (by rw [h44]; decide) (by rw [h44]; decide) (by decide) ?_
        exact sL_law_1522 F _ ih l3 S
      refine sd_ite (fun h45 => ?_) (fun _ => ?_)
      · refine sd_swi (off := 1503) (pc := 33) 1536 dL_law_33 (by rw [h45]; decide) (by rw [h45]; decide) (by rw [h45]; decide) (by decide) ?_
        exact sL_law_1536 F _ ih l3 S
      refine sd_ite (fun h46 => ?_) (fun _ => ?_)
      · refine sd_swi (off := 1517) (pc := 33) 1550 dL_law_33 (by rw [h46]; decide) (by rw [h46]; decide) (by rw [h46]; decide) (by decide) ?_
        exact sL_law_1550 F _ ih l3 S
      refine sd_ite (fun h47 => ?_) (fun _ => ?_)
      · refine sd_swi (off := 1540) (pc := 33) 1573 dL_law_33 (by rw [h47]; decide) (by rw [h47]; decide) (by rw [h47]; decide) (by decide) ?_
        exact sL_law_1573 F _ ih l3 S
      refine sd_ite (fun h48 => ?_) (fun _ => ?_)
      · refine sd_swi (off := 1553) (pc := 33) 1586 dL_law_33 (by rw [h48]; decide) (by rw [h48]; decide) (by rw [h48]; decide) (by decide) ?_
        exact sL_law_1586 F _ ih l3 S
      refine sd_ite (fun h49 => ?_) (fun _ => ?_)
      · refine sd_swi (off := 1576) (pc := 33) 1609 dL_law_33 (by rw [h49]; decide) (by rw [h49]; decide) (by rw [h49]; decide) (by decide) ?_
        exact sL_law_1609 F _ ih l3 S
      exact sd_none
