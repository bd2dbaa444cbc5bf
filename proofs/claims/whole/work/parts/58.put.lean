/-! ===== put; what is told ===== -/
theorem tb_1 (x : Int32) : -128 ≤ (x.toInt8.toInt32).toInt ∧ (x.toInt8.toInt32).toInt ≤ 127 := by
  rw [Int8.toInt_toInt32]
  have h1 := Int8.le_toInt x.toInt8
  have h2 := Int8.toInt_lt x.toInt8
  omega
theorem m_askt0 {F : Nat} {x : Int32} {S : sm_t} (h : x.toInt < 0 ∨ 4 ≤ x.toInt) : x8_askedText F x S = some (-1, S) := by
  unfold x8_askedText
  rw [m_text0 h]
  rfl
theorem m_askt1 {F r : Nat} {z : zz} {J S : sm_t} (h : mi z J S) (hr : r < 4) (hs : z_ts z r = none) : x8_askedText F (nI r) S = some (-3, mfd S 1) := by
  have e := h.2.2.2.1 r hr
  rw [hs] at e
  change S.1 57 r = -9 at e
  unfold x8_askedText
  simp (disch := first | omega | (simp (disch := omega) only [tt_le, tt_lt, tt_eq, tt_nI, Int32.reduceToInt, tt_neg9, tt_neg1, tt_neg3] <;> omega) | fail) only [↓tt_n, ↓tt_cI, ↓tt_cL, ↓tt_cV, ↓tt_rd, ↓tt_wr, ↓tt_wl, ↓if_pos, ↓if_neg, ↓tt_eta, ↓tt_e _ (m_text1 hr), ↓tt_r _ e, m_f1]
theorem m_askt2 {F r n : Nat} {z : zz} {J S : sm_t} (hz : zw z) (h : mi z J S) (hr : r < 4) (hs : z_ts z r = some n) : x8_askedText F (nI r) S = some (0, S) := by
  have e := h.2.2.2.1 r hr
  have hn := hz.2.1 r n hs
  rw [hs] at e
  change S.1 57 r = nI n at e
  unfold x8_askedText
  simp (disch := first | omega | (simp (disch := omega) only [tt_le, tt_lt, tt_eq, tt_nI, Int32.reduceToInt, tt_neg9, tt_neg1, tt_neg3] <;> omega) | fail) only [↓tt_n, ↓tt_cI, ↓tt_cL, ↓tt_cV, ↓tt_rd, ↓tt_wr, ↓tt_wl, ↓if_pos, ↓if_neg, ↓tt_eta, ↓tt_e _ (m_text1 hr), ↓tt_r _ e, m_f1]
theorem q_put {z : zz} {J K S T : sm_t} (hz : zw z) (hx : xi z J S) (hm : mi z K T) {F : Nat} (r i v : Int32) : bt J K (x7_put F r i v S) (x8_put F r i v T) := by
  rcases tt_below r 4 (by omega) with ⟨r, hr, rfl⟩ | h
  · have e := hx.2.2.2.1 r hr
    have e3 := hm.2.2.2.1 r hr
    cases hs : z_ts z r with
    | none =>
      rw [hs] at e
      change S.1 17 r = -1 at e
      unfold x7_put x8_put
      simp (disch := first | omega | (simp (disch := omega) only [tt_le, tt_lt, tt_eq, tt_nI, Int32.reduceToInt, tt_neg9, tt_neg1, tt_neg3] <;> omega) | fail) only [↓tt_n, ↓tt_cI, ↓tt_cL, ↓tt_cV, ↓tt_rd, ↓tt_wr, ↓tt_wl, ↓if_pos, ↓if_neg, ↓tt_eta, ↓tt_e _ (x_text1 hr), ↓tt_r _ e, ↓tt_e _ (m_askt1 hm hr hs), x_f1]
      exact bt_fd hz hx hm (by omega)
    | some n =>
      have hn := hz.2.1 r n hs
      rw [hs] at e e3
      change S.1 17 r = nI n at e
      change T.1 57 r = nI n at e3
      rcases tt_below i n (by omega) with ⟨i, hi, rfl⟩ | h
      · obtain ⟨m, rfl⟩ : ∃ m, n = m + 1 := ⟨n - 1, by omega⟩
        unfold x7_put x8_put
        simp (disch := first | omega | (simp (disch := omega) only [tt_le, tt_lt, tt_eq, tt_nI, Int32.reduceToInt, tt_neg9, tt_neg1, tt_neg3] <;> omega) | fail) only [↓tt_n, ↓tt_cI, ↓tt_cL, ↓tt_cV, ↓tt_rd, ↓tt_wr, ↓tt_wl, ↓if_pos, ↓if_neg, ↓tt_eta, ↓tt_e _ (x_text1 hr), ↓tt_r _ e, ↓tt_e _ (m_askt2 hz hm hr hs), ↓tt_r _ e3, nI_pred, m_in1, ↓tt_an (tt_sq_text r hr), tk_m80, nI_add]
        rw [hx.2.2.2.2.1 r i hr (by omega), hm.2.2.2.2.1 r i hr (by omega), pk_vb]
        refine ⟨_, zq_tw z (z2r (z_tw z) r (fun k => if k = i then v.toInt8.toInt32 else z_tw z r k)), _, _, rfl, rfl, z2t hz (fun k hk => ?_), xi_twg hz hx hr (fun b hb => tt_1 hb) rfl (fun k hk => ?_), mi_twg hm hr (fun b hb => tt_1 hb) rfl (fun k hk => ?_) (fun k hk => ?_)⟩
        · split
          · exact tb_1 v
          · exact hz.2.2.2.2.2.2 r k hr hk
        · rw [tt_1s, hx.2.2.2.2.1 r k hr hk]
        · rw [tt_1s]
          by_cases q : k = i
          · rw [if_pos (by omega), if_pos q]
          · rw [if_neg (by omega), if_neg q]
            exact hm.2.2.2.2.1 r k hr hk
        · rw [tt_1s, if_neg (by omega)]
      · have e1 : (nI n - 1).toInt = (n : Int) - 1 := pk_sub_toInt (b := 1) (by omega) (by omega)
        have e4 : x8_in F i 0 (nI n - 1) T = some (0, T) := by
          rw [m_in]
          by_cases q : i.toInt < 0
          · rw [if_pos (by rw [tt_lt]; exact q)]
          · rw [if_neg (by rw [tt_lt]; exact q), if_pos (by rw [tt_lt, e1]; omega)]
        unfold x7_put x8_put
        by_cases q : i.toInt < 0
        · simp (disch := first | omega | (simp (disch := omega) only [tt_le, tt_lt, tt_eq, tt_nI, Int32.reduceToInt, tt_neg9, tt_neg1, tt_neg3] <;> omega) | fail) only [↓tt_n, ↓tt_cI, ↓tt_cL, ↓tt_cV, ↓tt_rd, ↓tt_wr, ↓tt_wl, ↓if_pos, ↓if_neg, ↓tt_eta, ↓tt_e _ (x_text1 hr), ↓tt_r _ e, ↓tt_e _ (m_askt2 hz hm hr hs), ↓tt_r _ e3, ↓tt_e _ e4, x_f2, m_f2]
          exact bt_fd hz hx hm (by omega)
        · simp (disch := first | omega | (simp (disch := omega) only [tt_le, tt_lt, tt_eq, tt_nI, Int32.reduceToInt, tt_neg9, tt_neg1, tt_neg3] <;> omega) | fail) only [↓tt_n, ↓tt_cI, ↓tt_cL, ↓tt_cV, ↓tt_rd, ↓tt_wr, ↓tt_wl, ↓if_pos, ↓if_neg, ↓tt_eta, ↓tt_e _ (x_text1 hr), ↓tt_r _ e, ↓tt_e _ (m_askt2 hz hm hr hs), ↓tt_r _ e3, ↓tt_e _ e4, x_f2, m_f2]
          exact bt_fd hz hx hm (by omega)
  · unfold x7_put x8_put
    rw [x_text0 h, m_askt0 h]
    exact bt_same hz hx hm (-1)
theorem bl_same {z : zz} {J K S T : sm_t} (hz : zw z) (hx : xi z J S) (hm : mi z K T) (v : Int64) : bl J K (some (v, S)) (some (v, T)) := ⟨_, z, _, _, rfl, rfl, hz, hx, hm⟩
theorem q_asked {z : zz} {J K S T : sm_t} (hz : zw z) (hx : xi z J S) (hm : mi z K T) {F : Nat} : bt J K (x7_asked F S) (x8_asked F T) := by
  unfold x7_asked x8_asked
  rw [tt_n, tt_n, hx.2.2.2.2.2.2.2.2.1.1, hm.2.2.2.2.2.2.2.2.1.1]
  exact bt_same hz hx hm _
theorem q_finding {z : zz} {J K S T : sm_t} (hz : zw z) (hx : xi z J S) (hm : mi z K T) {F : Nat} : bt J K (x7_finding F S) (x8_finding F T) := by
  unfold x7_finding x8_finding
  rw [tt_n, tt_n, hx.2.2.2.2.2.2.2.2.1.2.2.2.1, hm.2.2.2.2.2.2.2.2.1.2.2.2.1]
  exact bt_same hz hx hm _
theorem q_upper {z : zz} {J K S T : sm_t} (hz : zw z) (hx : xi z J S) (hm : mi z K T) {F : Nat} : bl J K (x7_upper F S) (x8_upper F T) := by
  unfold x7_upper x8_upper
  rw [tt_n, tt_n, hx.2.2.2.2.2.2.2.2.1.2.1, hm.2.2.2.2.2.2.2.2.1.2.1]
  exact bl_same hz hx hm _
theorem q_lower {z : zz} {J K S T : sm_t} (hz : zw z) (hx : xi z J S) (hm : mi z K T) {F : Nat} : bl J K (x7_lower F S) (x8_lower F T) := by
  unfold x7_lower x8_lower
  rw [tt_n, tt_n, hx.2.2.2.2.2.2.2.2.1.2.2.1, hm.2.2.2.2.2.2.2.2.1.2.2.1]
  exact bl_same hz hx hm _
