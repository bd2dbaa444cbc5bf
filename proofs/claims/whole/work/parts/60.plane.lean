/-! ===== flight, course, plan ===== -/
theorem tt_cp {ρ : Type} {S : sm_t} {a n0 d n1 i j n : Nat} {K : sm_t → Option ρ} (h : i + n ≤ n0) (h2 : j + n ≤ n1) (h3 : n0 < 2147483648) (h4 : n1 < 2147483648) : sm_cp S a n0 d n1 (nI i) (nI j) (nI n) K = K (wf S d (va_cpy (S.1 a) (S.1 d) i j n)) := by
  unfold sm_cp
  rw [if_pos ⟨nI_pos (by omega), nI_pos (by omega), nI_pos (by omega), by rw [nI_clamp (by omega), nI_clamp (by omega)]; omega, by rw [nI_clamp (by omega), nI_clamp (by omega)]; omega⟩, nI_clamp (by omega), nI_clamp (by omega), nI_clamp (by omega)]
  rfl
theorem zw_fl {z : zz} {c n : Nat} {co en : Nat → Nat} (hz : zw z) (h : c < 120 ∧ n ≤ 6 ∧ (∀ h, h < n → co h < 8) ∧ (∀ h, h ≤ n → en h ≤ 9)) : zw (zq_fl z (c, n, co, en)) := ⟨hz.1, hz.2.1, h, hz.2.2.2⟩
theorem zn_1 {x : Int32} {n : Nat} (h : ∃ j, j < n ∧ x = nI j) (hn : n < 2147483648) : nI x.toNatClampNeg = x ∧ x.toNatClampNeg < n := by
  obtain ⟨j, hj, rfl⟩ := h
  rw [nI_clamp (by omega)]
  exact ⟨rfl, hj⟩
theorem tt_sq20 : sm_sq 20 = some (.inl (.int, 6)) := by decide
theorem tt_sq21 : sm_sq 21 = some (.inl (.int, 7)) := by decide
theorem x_fl87 {F r n c : Nat} {z : zz} {J S : sm_t} {co en : Nat → Nat} (hF : 1000 < F ∧ F < 2147483648) (hz : zw z) (h : xi z J S) (hr : r < 6) (hs : z_rs z r = some n) (hn : n ≤ 6) (hco : ∀ k, k < n → z_rw z r k = nI (co k)) (hen : ∀ k, en k = if k = n then 1 else 0) : ∃ S1, x7_flight_87 F (nI c) (nI r) S = some (nI n, S1) ∧ xi (zq_fl z (c, n, co, en)) J S1 := by
  have e := h.2.1 r hr
  rw [hs] at e
  change S.1 11 r = nI n at e
  obtain ⟨g, e1, hg⟩ := x_fill (F := F) (v := 0) (S := wf (sm_wI (sm_wI S 19 0 (nI c)) 19 1 (nI n)) 20 (va_cpy (S.1 (5 + r)) (S.1 20) 0 0 n)) tt_sq21 (by omega) hF.2
  have e2 : x3_begin F (nI c) (5 + r) (nI n) S = some (sm_wI (wf (wf (sm_wI (sm_wI S 19 0 (nI c)) 19 1 (nI n)) 20 (va_cpy (S.1 (5 + r)) (S.1 20) 0 0 n)) 21 g) 21 n 1) := by
    unfold x3_begin
    rw [tt_n, tt_n, tt_an (tt_sq_row r hr), show (0 : Int32) = nI 0 from rfl, tt_cp (by omega) (by omega) (by omega) (by omega), tt_1 (show 5 + r ≠ 19 by omega), tt_1 (show 5 + r ≠ 19 by omega), tt_1 (show 20 ≠ 19 by omega), tt_1 (show 20 ≠ 19 by omega)]
    change sm_cV (xA_fillI F 21 0 _) _ = _
    rw [e1, tt_cV, tt_wr (by omega) (by omega)]
  refine ⟨_, ?_, xc_fl (S1 := sm_wI (wf (wf (sm_wI (sm_wI S 19 0 (nI c)) 19 1 (nI n)) 20 (va_cpy (S.1 (5 + r)) (S.1 20) 0 0 n)) 21 g) 21 n 1) (c, n, co, en) hz h (fun b hb => ?_) rfl ⟨?_, ?_, fun k hk => ?_, fun k hk => ?_⟩⟩
  · unfold x7_flight_87
    rw [tt_rd hr (by omega), tt_r _ e hr (by omega), e2, tt_cV, tt_n, tt_1 (by omega), wf_o (by omega), wf_o (by omega), tt_1s, if_pos rfl]
  · rw [tt_1 (by omega), wf_o (by omega), wf_o (by omega), tt_1 (by omega), tt_1 (by omega)]
  · rw [tt_1 (by omega), wf_o (by omega), wf_o (by omega), tt_1s, if_neg (by omega), tt_1s, if_pos rfl]
  · rw [tt_1 (by omega), wf_o (by omega), wf_o (by omega), tt_1s, if_pos rfl]
  · have hk : k < n := hk
    rw [tt_1 (by omega), wf_o (by omega), wf_s, pk_cpy_in (by omega) (by omega), h.2.2.1 r _ hr (by omega), show 0 + (k - 0) = k by omega]
    exact hco k hk
  · have hk : k ≤ n := hk
    rw [tt_1s, wf_s, hg]
    change _ = nI (en k)
    rw [hen]
    by_cases q : k = n
    · rw [if_pos q, if_pos q]
      rfl
    · rw [if_neg q, if_neg q, if_pos (by omega)]
      rfl
theorem m_fl77 {F r n c : Nat} {z : zz} {J S : sm_t} {co en : Nat → Nat} (hF : 1000 < F) (h : mi z J S) (hr : r < 6) (hn : n ≤ 6) (hco : ∀ k, k < n → z_rw z r k = nI (co k)) (hen : ∀ k, en k = if k = n then 1 else 0) : ∃ S1, x8_flight_77 F (nI c) (nI r) (nI n) S = some (nI n, S1) ∧ mi (zq_fl z (c, n, co, en)) J S1 := by
  obtain ⟨g, e1, hg⟩ := m_fl95 (F := F) (w := z_rw z r) hr hn 6 F 0 (sm_wI (sm_wI S 59 0 (nI c)) 59 1 (nI n)) (fun k hk => by
    rw [tt_1 (by omega), tt_1 (by omega)]
    exact h.2.2.1 r k hr hk) (by omega) (by omega)
  obtain ⟨g2, e2, hg2⟩ := m_fl139 (F := F) hn 7 F 0 (wf (sm_wI (sm_wI S 59 0 (nI c)) 59 1 (nI n)) 59 g) (by omega) (by omega)
  refine ⟨_, ?_, mc_fl (S1 := wf (wf (sm_wI (sm_wI S 59 0 (nI c)) 59 1 (nI n)) 59 g) 59 g2) (c, n, co, en) h (fun b hb => ?_) rfl ⟨?_, ?_, fun k hk => ?_, fun k hk => ?_⟩⟩
  · unfold x8_flight_77
    rw [tw_0 _ (by omega) (by omega), tw_1 _ (by omega) (by omega)]
    exact e1.trans e2
  · rw [wf_o (by omega), wf_o (by omega), tt_1 (by omega), tt_1 (by omega)]
  · rw [wf_s, hg2, if_neg (by omega), wf_s, hg, if_neg (by omega), tt_1s, if_neg (by omega), tt_1s, if_pos rfl]
  · rw [wf_s, hg2, if_neg (by omega), wf_s, hg, if_neg (by omega), tt_1s, if_pos rfl]
  · rw [wf_s, hg2, if_neg (by omega), wf_s, hg, if_pos (by omega)]
    change _ = if k < n then nI (co k) else -9
    by_cases q : k < n
    · rw [if_pos q, if_pos (by omega), show 2 + k - 2 = k by omega, hco k q]
    · rw [if_neg q, if_neg (by omega)]
  · rw [wf_s, hg2, if_pos (by omega)]
    change _ = if k ≤ n then nI (en k) else -9
    rw [hen]
    by_cases q : k = n
    · rw [if_pos (by omega), if_pos (by omega), if_pos q]
      rfl
    · by_cases q1 : k < n
      · rw [if_neg (by omega), if_pos (by omega), if_pos (by omega), if_neg q]
        rfl
      · rw [if_neg (by omega), if_neg (by omega), if_neg (by omega)]
theorem q_flight {z : zz} {J K S T : sm_t} (hz : zw z) (hx : xi z J S) (hm : mi z K T) {F : Nat} (hF : 1000 < F ∧ F < 2147483648) (c r : Int32) : bt J K (x7_flight F c r S) (x8_flight F c r T) := by
  rcases tt_below c 120 (by omega) with ⟨c, hc, rfl⟩ | h
  · rcases tt_below r 6 (by omega) with ⟨r, hr, rfl⟩ | h
    · have e := hx.2.1 r hr
      have e3 := hm.2.1 r hr
      cases hs : z_rs z r with
      | none =>
        rw [hs] at e
        change S.1 11 r = -1 at e
        unfold x7_flight x8_flight
        simp (disch := first | omega | (simp (disch := omega) only [tt_le, tt_lt, tt_eq, tt_nI, Int32.reduceToInt, tt_neg9, tt_neg1, tt_neg3] <;> omega) | fail) only [↓tt_n, ↓tt_cI, ↓tt_cL, ↓tt_cV, ↓tt_rd, ↓tt_wr, ↓tt_wl, ↓if_pos, ↓if_neg, ↓tt_eta, ↓tt_e _ (x_cell1 hc), ↓tt_e _ (m_cell1 hc), ↓tt_e _ (x_row1 hr), ↓tt_r _ e, ↓tt_e _ (m_ask1 hm hr hs), x_f1]
        exact bt_fd hz hx hm (by omega)
      | some n =>
        have hn := hz.1 r n hs
        rw [hs] at e e3
        change S.1 11 r = nI n at e
        change T.1 54 r = nI n at e3
        unfold x7_flight x8_flight
        by_cases q : n ≤ 6
        · simp (disch := first | omega | (simp (disch := omega) only [tt_le, tt_lt, tt_eq, tt_nI, Int32.reduceToInt, tt_neg9, tt_neg1, tt_neg3] <;> omega) | fail) only [↓tt_n, ↓tt_cI, ↓tt_cL, ↓tt_cV, ↓tt_rd, ↓tt_wr, ↓tt_wl, ↓if_pos, ↓if_neg, ↓tt_eta, ↓tt_e _ (x_cell1 hc), ↓tt_e _ (m_cell1 hc), ↓tt_e _ (x_row1 hr), ↓tt_r _ e, ↓tt_r _ e3, ↓tt_e _ (m_ask2 hz hm hr hs)]
          have b := b_fl1 (F := F) (c := nI c) hz hx hm hr hs n F 0 (by omega) (by omega)
          change (x7_flight_51 F F (nI c) (nI r) 0 S = _ ∧ x8_flight_45 F F (nI c) (nI r) (nI n) 0 T = _ ∧ _) ∨ (x7_flight_51 F F (nI c) (nI r) 0 S = _ ∧ x8_flight_45 F F (nI c) (nI r) (nI n) 0 T = _) at b
          rcases b with ⟨b1, b2, b3⟩ | ⟨b1, b2⟩
          · have hco : ∀ k, k < n → z_rw z r k = nI ((z_rw z r k).toNatClampNeg) := fun k hk => (zn_1 (b3 k (by omega) hk) (by omega)).1.symm
            obtain ⟨S1, f1, f2⟩ := x_fl87 (F := F) (c := c) (en := fun k => if k = n then 1 else 0) hF hz hx hr hs q hco (fun k => rfl)
            obtain ⟨T1, f3, f4⟩ := m_fl77 (F := F) (c := c) (en := fun k => if k = n then 1 else 0) hF.1 hm hr q hco (fun k => rfl)
            refine ⟨_, _, S1, T1, b1.trans f1, b2.trans f3, zw_fl hz ⟨hc, q, fun k hk => (zn_1 (b3 k (by omega) hk) (by omega)).2, fun k hk => ?_⟩, f2, f4⟩
            split <;> omega
          · rw [b1, b2]
            exact bt_fd hz hx hm (by omega)
        · simp (disch := first | omega | (simp (disch := omega) only [tt_le, tt_lt, tt_eq, tt_nI, Int32.reduceToInt, tt_neg9, tt_neg1, tt_neg3] <;> omega) | fail) only [↓tt_n, ↓tt_cI, ↓tt_cL, ↓tt_cV, ↓tt_rd, ↓tt_wr, ↓tt_wl, ↓if_pos, ↓if_neg, ↓tt_eta, ↓tt_e _ (x_cell1 hc), ↓tt_e _ (m_cell1 hc), ↓tt_e _ (x_row1 hr), ↓tt_r _ e, ↓tt_r _ e3, ↓tt_e _ (m_ask2 hz hm hr hs), x_f5, m_f5]
          exact bt_fd hz hx hm (by omega)
    · unfold x7_flight x8_flight
      rw [x_cell1 hc, m_cell1 hc, tt_cI, tt_cI, if_neg (by decide), if_neg (by decide), x_row0 h, m_ask0 h]
      exact bt_same hz hx hm (-1)
  · unfold x7_flight x8_flight
    rw [x_cell0 h, m_cell0 h]
    exact bt_same hz hx hm (-1)
