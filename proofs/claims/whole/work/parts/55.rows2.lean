/-! ===== at, lay, tear, copy, mean ===== -/
theorem tt_rz1 (S : sm_t) : sm_rz 1 S = some (1, S) := rfl
theorem tt_rz0 (S : sm_t) : sm_rz 0 S = some (0, S) := rfl
theorem xi_rwg {z : zz} {J S S1 : sm_t} {r : Nat} {g : Nat → Int32} (hz : zw z) (h : xi z J S) (hr : r < 6) (hb : ∀ b, b ≠ 5 + r → S1.1 b = S.1 b) (h2 : S1.2 = S.2) (hg : ∀ k, k < 40 → S1.1 (5 + r) k = g k) : xi (zq_rw z (z2r (z_rw z) r g)) J S1 := by
  refine xc_rw _ hz h (fun b q => hb b (by omega)) h2 (fun i k hi hk => ?_)
  unfold z2r
  by_cases q : i = r
  · rw [if_pos q, q]
    exact hg k hk
  · rw [if_neg q, hb _ (by omega)]
    exact h.2.2.1 i k hi hk
theorem mi_rwg {z : zz} {J S S1 : sm_t} {r : Nat} {g : Nat → Int32} (h : mi z J S) (hr : r < 6) (hb : ∀ b, b ≠ 55 → S1.1 b = S.1 b) (h2 : S1.2 = S.2) (hg : ∀ k, k < 40 → S1.1 55 (40 * r + k) = g k) (ho : ∀ k, ¬ (40 * r ≤ k ∧ k < 40 * r + 40) → S1.1 55 k = S.1 55 k) : mi (zq_rw z (z2r (z_rw z) r g)) J S1 := by
  refine mc_rw _ h (fun b q => hb b q) h2 (fun i k hi hk => ?_)
  unfold z2r
  by_cases q : i = r
  · rw [if_pos q, q]
    exact hg k hk
  · rw [if_neg q, ho _ (by omega)]
    exact h.2.2.1 i k hi hk
theorem x_bar0 {F : Nat} {x i : Int32} {S : sm_t} (h : x.toInt < 0 ∨ 6 ≤ x.toInt) : x7_barredPlace F x i S = some (-1, S) := by
  unfold x7_barredPlace
  simp (disch := omega) only [tt_n, tt_cI, tt_cL, tt_cV, tt_rd, tt_wr, tt_wl, tt_le, tt_lt, tt_eq, tt_nI, if_pos, if_neg, tt_eta, ↓reduceIte, Int32.reduceToInt, x_row0 h]
theorem x_bar1 {F r : Nat} {i : Int32} {z : zz} {J S : sm_t} (h : xi z J S) (hr : r < 6) (hs : z_rs z r = none) : x7_barredPlace F (nI r) i S = some (-3, xfd S 1) := by
  have e := h.2.1 r hr
  rw [hs] at e
  change S.1 11 r = -1 at e
  unfold x7_barredPlace
  simp (disch := omega) only [tt_n, tt_cI, tt_cL, tt_cV, tt_rd, tt_wr, tt_wl, tt_le, tt_lt, tt_eq, tt_nI, if_pos, if_neg, tt_eta, ↓reduceIte, Int32.reduceToInt, x_row1 hr, e, x_f1]
theorem x_bar2 {F r n : Nat} {i : Int32} {z : zz} {J S : sm_t} (hz : zw z) (h : xi z J S) (hr : r < 6) (hs : z_rs z r = some n) (hi : i.toInt < 0 ∨ (n : Int) ≤ i.toInt) : x7_barredPlace F (nI r) i S = some (-3, xfd S 2) := by
  have e := h.2.1 r hr
  have hn := hz.1 r n hs
  rw [hs] at e
  change S.1 11 r = nI n at e
  unfold x7_barredPlace
  by_cases q : i.toInt < 0
  · simp (disch := omega) only [tt_n, tt_cI, tt_cL, tt_cV, tt_rd, tt_wr, tt_wl, tt_le, tt_lt, tt_eq, tt_nI, if_pos, if_neg, tt_eta, ↓reduceIte, Int32.reduceToInt, x_row1 hr, e, x_f2, tt_neg1]
  · simp (disch := omega) only [tt_n, tt_cI, tt_cL, tt_cV, tt_rd, tt_wr, tt_wl, tt_le, tt_lt, tt_eq, tt_nI, if_pos, if_neg, tt_eta, ↓reduceIte, Int32.reduceToInt, x_row1 hr, e, x_f2, tt_neg1]
theorem x_bar3 {F r n i : Nat} {z : zz} {J S : sm_t} (hz : zw z) (h : xi z J S) (hr : r < 6) (hs : z_rs z r = some n) (hi : i < n) : x7_barredPlace F (nI r) (nI i) S = some (0, S) := by
  have e := h.2.1 r hr
  have hn := hz.1 r n hs
  rw [hs] at e
  change S.1 11 r = nI n at e
  unfold x7_barredPlace
  simp (disch := omega) only [tt_n, tt_cI, tt_cL, tt_cV, tt_rd, tt_wr, tt_wl, tt_le, tt_lt, tt_eq, tt_nI, if_pos, if_neg, tt_eta, ↓reduceIte, Int32.reduceToInt, x_row1 hr, e, x_f2, tt_neg1]
theorem m_ask0 {F : Nat} {x : Int32} {S : sm_t} (h : x.toInt < 0 ∨ 6 ≤ x.toInt) : x8_askedRow F x S = some (-1, S) := by
  unfold x8_askedRow
  simp (disch := omega) only [tt_n, tt_cI, tt_cL, tt_cV, tt_rd, tt_wr, tt_wl, tt_le, tt_lt, tt_eq, tt_nI, if_pos, if_neg, tt_eta, ↓reduceIte, Int32.reduceToInt, m_row0 h]
theorem m_ask1 {F r : Nat} {z : zz} {J S : sm_t} (h : mi z J S) (hr : r < 6) (hs : z_rs z r = none) : x8_askedRow F (nI r) S = some (-3, mfd S 1) := by
  have e := h.2.1 r hr
  rw [hs] at e
  change S.1 54 r = -9 at e
  unfold x8_askedRow
  simp (disch := omega) only [tt_n, tt_cI, tt_cL, tt_cV, tt_rd, tt_wr, tt_wl, tt_le, tt_lt, tt_eq, tt_nI, if_pos, if_neg, tt_eta, ↓reduceIte, Int32.reduceToInt, m_row1 hr, e, m_f1, tt_neg9]
theorem m_ask2 {F r n : Nat} {z : zz} {J S : sm_t} (hz : zw z) (h : mi z J S) (hr : r < 6) (hs : z_rs z r = some n) : x8_askedRow F (nI r) S = some (0, S) := by
  have e := h.2.1 r hr
  have hn := hz.1 r n hs
  rw [hs] at e
  change S.1 54 r = nI n at e
  unfold x8_askedRow
  simp (disch := omega) only [tt_n, tt_cI, tt_cL, tt_cV, tt_rd, tt_wr, tt_wl, tt_le, tt_lt, tt_eq, tt_nI, if_pos, if_neg, tt_eta, ↓reduceIte, Int32.reduceToInt, m_row1 hr, e, m_f1, tt_neg9]
theorem m_rowAt {F r k : Nat} {z : zz} {J S : sm_t} (h : mi z J S) (hr : r < 6) (hk : k < 40) : x8_rowAt F (nI r) (nI k) S = some (z_rw z r k, S) := by
  unfold x8_rowAt
  simp (disch := omega) only [tt_n, tt_cI, tt_cL, tt_cV, tt_rd, tt_wr, tt_wl, tt_le, tt_lt, tt_eq, tt_nI, if_pos, if_neg, tt_eta, ↓reduceIte, Int32.reduceToInt, nI_add, pk_mul, tk_m1, tk_n1, tk_a1, tk_b1, tk_m2, tk_n2, tk_a2, tk_b2, tk_m3, tk_n3, tk_a3, tk_b3, tk_m4, tk_n4, tk_a4, tk_b4, tk_m5, tk_n5, tk_a5, tk_b5, tk_m7, tk_n7, tk_a7, tk_b7, tk_m8, tk_n8, tk_a8, tk_b8, tk_m10, tk_n10, tk_a10, tk_b10, tk_m12, tk_n12, tk_a12, tk_b12, tk_m16, tk_n16, tk_a16, tk_b16, tk_m32, tk_n32, tk_a32, tk_b32, tk_m40, tk_n40, tk_a40, tk_b40, tk_m48, tk_n48, tk_a48, tk_b48, tk_m80, tk_n80, tk_a80, tk_b80, tk_m100, tk_n100, tk_a100, tk_b100, tk_m120, tk_n120, tk_a120, tk_b120, tk_m1000, tk_n1000, tk_a1000, tk_b1000]
  rw [h.2.2.1 r k hr hk]
theorem m_at {F r n i : Nat} {z : zz} {J S : sm_t} (hz : zw z) (h : mi z J S) (hr : r < 6) (hs : z_rs z r = some n) (hi : i < n) : x8_at F (nI r) (nI i) S = some (1, sm_wI S 52 2 (z_rw z r i)) := by
  have e := h.2.1 r hr
  have hn := hz.1 r n hs
  rw [hs] at e
  change S.1 54 r = nI n at e
  obtain ⟨m, rfl⟩ : ∃ m, n = m + 1 := ⟨n - 1, by omega⟩
  unfold x8_at
  simp (disch := omega) only [tt_n, tt_cI, tt_cL, tt_cV, tt_rd, tt_wr, tt_wl, tt_le, tt_lt, tt_eq, tt_nI, if_pos, if_neg, tt_eta, ↓reduceIte, Int32.reduceToInt, m_ask2 hz h hr hs, e, nI_pred, m_in0, m_rowAt h hr (show i < 40 by omega), x_ak2]
theorem m_at2 {F r n : Nat} {i : Int32} {z : zz} {J S : sm_t} (hz : zw z) (h : mi z J S) (hr : r < 6) (hs : z_rs z r = some n) (hi : i.toInt < 0 ∨ (n : Int) ≤ i.toInt) : x8_at F (nI r) i S = some (-3, mfd S 2) := by
  have e := h.2.1 r hr
  have hn := hz.1 r n hs
  rw [hs] at e
  change S.1 54 r = nI n at e
  have e1 : (nI n - 1).toInt = (n : Int) - 1 := pk_sub_toInt (b := 1) (by omega) (by omega)
  unfold x8_at
  rw [m_ask2 hz h hr hs]
  by_cases q : i.toInt < 0
  · simp (disch := omega) only [tt_n, tt_cI, tt_cL, tt_cV, tt_rd, tt_wr, tt_wl, tt_le, tt_lt, tt_eq, tt_nI, if_pos, if_neg, tt_eta, ↓reduceIte, Int32.reduceToInt, e, m_in, e1, m_f2]
  · simp (disch := omega) only [tt_n, tt_cI, tt_cL, tt_cV, tt_rd, tt_wr, tt_wl, tt_le, tt_lt, tt_eq, tt_nI, if_pos, if_neg, tt_eta, ↓reduceIte, Int32.reduceToInt, e, m_in, e1, m_f2]
theorem q_at {z : zz} {J K S T : sm_t} (hz : zw z) (hx : xi z J S) (hm : mi z K T) {F : Nat} (r i : Int32) : bt J K (x7_at F r i S) (x8_at F r i T) := by
  rcases tt_below r 6 (by omega) with ⟨r, hr, rfl⟩ | h
  · cases hs : z_rs z r with
    | none =>
      unfold x7_at x8_at
      simp (disch := omega) only [tt_n, tt_cI, tt_cL, tt_cV, tt_rd, tt_wr, tt_wl, tt_le, tt_lt, tt_eq, tt_nI, if_pos, if_neg, tt_eta, ↓reduceIte, Int32.reduceToInt, x_bar1 hx hr hs, m_ask1 hm hr hs, tt_neg3]
      exact bt_fd hz hx hm (by omega)
    | some n =>
      have hn := hz.1 r n hs
      rcases tt_below i n (by omega) with ⟨i, hi, rfl⟩ | h
      · rw [m_at hz hm hr hs hi]
        unfold x7_at
        simp (disch := omega) only [tt_n, tt_cI, tt_cL, tt_cV, tt_rd, tt_wr, tt_wl, tt_le, tt_lt, tt_eq, tt_nI, if_pos, if_neg, tt_eta, ↓reduceIte, Int32.reduceToInt, x_bar3 hz hx hr hs hi, tt_an (tt_sq_row r hr)]
        rw [hx.2.2.1 r i hr (by omega)]
        exact bt_ak hz hx hm _ _
      · rw [m_at2 hz hm hr hs h]
        unfold x7_at
        simp (disch := omega) only [tt_n, tt_cI, tt_cL, tt_cV, tt_rd, tt_wr, tt_wl, tt_le, tt_lt, tt_eq, tt_nI, if_pos, if_neg, tt_eta, ↓reduceIte, Int32.reduceToInt, x_bar2 hz hx hr hs h, tt_neg3]
        exact bt_fd hz hx hm (by omega)
  · unfold x7_at x8_at
    simp (disch := omega) only [tt_n, tt_cI, tt_cL, tt_cV, tt_rd, tt_wr, tt_wl, tt_le, tt_lt, tt_eq, tt_nI, if_pos, if_neg, tt_eta, ↓reduceIte, Int32.reduceToInt, x_bar0 h, m_ask0 h, tt_neg1]
    exact bt_same hz hx hm _
theorem q_lay {z : zz} {J K S T : sm_t} (hz : zw z) (hx : xi z J S) (hm : mi z K T) {F : Nat} (r i v : Int32) : bt J K (x7_lay F r i v S) (x8_lay F r i v T) := by
  rcases tt_below r 6 (by omega) with ⟨r, hr, rfl⟩ | h
  · cases hs : z_rs z r with
    | none =>
      unfold x7_lay x8_lay x8_at
      simp (disch := omega) only [tt_n, tt_cI, tt_cL, tt_cV, tt_rd, tt_wr, tt_wl, tt_le, tt_lt, tt_eq, tt_nI, if_pos, if_neg, tt_eta, ↓reduceIte, Int32.reduceToInt, x_bar1 hx hr hs, m_ask1 hm hr hs, tt_neg3]
      exact bt_fd hz hx hm (by omega)
    | some n =>
      have hn := hz.1 r n hs
      rcases tt_below i n (by omega) with ⟨i, hi, rfl⟩ | h
      · unfold x7_lay x8_lay
        simp (disch := omega) only [tt_n, tt_cI, tt_cL, tt_cV, tt_rd, tt_wr, tt_wl, tt_le, tt_lt, tt_eq, tt_nI, if_pos, if_neg, tt_eta, ↓reduceIte, Int32.reduceToInt, m_at hz hm hr hs hi, x_bar3 hz hx hr hs hi, tt_an (tt_sq_row r hr), nI_add, pk_mul, tk_m1, tk_n1, tk_a1, tk_b1, tk_m2, tk_n2, tk_a2, tk_b2, tk_m3, tk_n3, tk_a3, tk_b3, tk_m4, tk_n4, tk_a4, tk_b4, tk_m5, tk_n5, tk_a5, tk_b5, tk_m7, tk_n7, tk_a7, tk_b7, tk_m8, tk_n8, tk_a8, tk_b8, tk_m10, tk_n10, tk_a10, tk_b10, tk_m12, tk_n12, tk_a12, tk_b12, tk_m16, tk_n16, tk_a16, tk_b16, tk_m32, tk_n32, tk_a32, tk_b32, tk_m40, tk_n40, tk_a40, tk_b40, tk_m48, tk_n48, tk_a48, tk_b48, tk_m80, tk_n80, tk_a80, tk_b80, tk_m100, tk_n100, tk_a100, tk_b100, tk_m120, tk_n120, tk_a120, tk_b120, tk_m1000, tk_n1000, tk_a1000, tk_b1000]
        rw [hx.2.2.1 r i hr (by omega)]
        have h1 := xi_ak (v := z_rw z r i) hz hx
        have h2 := mi_ak (v := z_rw z r i) hm
        refine ⟨_, _, _, _, rfl, rfl, zw_rw (zw_ak hz), xi_rwg (g := fun k => if k = i then v else z_rw z r k) (zw_ak hz) h1 hr (fun b hb => tt_1 hb) rfl (fun k hk => ?_), mi_rwg h2 hr (fun b hb => tt_1 hb) rfl (fun k hk => ?_) (fun k hk => ?_)⟩
        · rw [tt_1s]
          split
          · rfl
          · exact h1.2.2.1 r k hr hk
        · rw [tt_1s]
          by_cases q : k = i
          · rw [if_pos (by omega), if_pos q]
          · rw [if_neg (by omega), if_neg q]
            exact h2.2.2.1 r k hr hk
        · rw [tt_1s, if_neg (by omega)]
      · unfold x7_lay x8_lay
        simp (disch := omega) only [tt_n, tt_cI, tt_cL, tt_cV, tt_rd, tt_wr, tt_wl, tt_le, tt_lt, tt_eq, tt_nI, if_pos, if_neg, tt_eta, ↓reduceIte, Int32.reduceToInt, m_at2 hz hm hr hs h, x_bar2 hz hx hr hs h, tt_neg3]
        exact bt_fd hz hx hm (by omega)
  · unfold x7_lay x8_lay x8_at
    simp (disch := omega) only [tt_n, tt_cI, tt_cL, tt_cV, tt_rd, tt_wr, tt_wl, tt_le, tt_lt, tt_eq, tt_nI, if_pos, if_neg, tt_eta, ↓reduceIte, Int32.reduceToInt, x_bar0 h, m_ask0 h, tt_neg1]
    exact bt_same hz hx hm _
theorem q_tear {z : zz} {J K S T : sm_t} (hz : zw z) (hx : xi z J S) (hm : mi z K T) {F : Nat} (r : Int32) : bt J K (x7_tear F r S) (x8_tear F r T) := by
  rcases tt_below r 6 (by omega) with ⟨r, hr, rfl⟩ | h
  · have e := hx.2.1 r hr
    cases hs : z_rs z r with
    | none =>
      rw [hs] at e
      change S.1 11 r = -1 at e
      unfold x7_tear x8_tear
      simp (disch := omega) only [tt_n, tt_cI, tt_cL, tt_cV, tt_rd, tt_wr, tt_wl, tt_le, tt_lt, tt_eq, tt_nI, if_pos, if_neg, tt_eta, ↓reduceIte, Int32.reduceToInt, x_row1 hr, m_ask1 hm hr hs, tt_neg3, e, x_f1]
      exact bt_fd hz hx hm (by omega)
    | some n =>
      have hn := hz.1 r n hs
      rw [hs] at e
      change S.1 11 r = nI n at e
      unfold x7_tear x8_tear
      simp (disch := omega) only [tt_n, tt_cI, tt_cL, tt_cV, tt_rd, tt_wr, tt_wl, tt_le, tt_lt, tt_eq, tt_nI, if_pos, if_neg, tt_eta, ↓reduceIte, Int32.reduceToInt, x_row1 hr, m_ask2 hz hm hr hs, tt_neg3, e, tt_neg1]
      exact ⟨_, _, _, _, rfl, rfl, zw_rs (o := none) hz (fun k hk => by cases hk), xi_rs (o := none) hz hx hr, mi_rs hm hr⟩
  · unfold x7_tear x8_tear
    simp (disch := omega) only [tt_n, tt_cI, tt_cL, tt_cV, tt_rd, tt_wr, tt_wl, tt_le, tt_lt, tt_eq, tt_nI, if_pos, if_neg, tt_eta, ↓reduceIte, Int32.reduceToInt, x_row0 h, m_ask0 h, tt_neg1]
    exact bt_same hz hx hm _
/-! copy -/
theorem x_holds {F s n : Nat} {i : Int32} {S : sm_t} (hs : s ≤ 40) (hn : n < 2147483648) : x7_holds F (nI s) i (nI n) S = some (if 0 ≤ i.toInt ∧ i.toInt + n ≤ s then 1 else 0, S) := by
  unfold x7_holds
  by_cases q : i < 0
  · rw [if_pos q, if_neg]
    rw [tt_lt] at q
    simp only [Int32.reduceToInt] at q
    omega
  · rw [if_neg q]
    obtain ⟨i, hi, rfl⟩ := nI_of q
    rw [tt_nI (by omega)]
    by_cases q1 : s < i
    · rw [if_pos (nI_lt q1 (by omega)), if_neg (by omega)]
    · rw [if_neg (nI_nlt (by omega) (by omega)), pk_sub (by omega)]
      by_cases q2 : s - i < n
      · rw [if_pos (nI_lt q2 (by omega)), if_neg (by omega)]
      · rw [if_neg (nI_nlt (by omega) (by omega)), if_pos (by omega)]
theorem m_cp136 {F to j n : Nat} (hto : to < 6) (hj : j + n ≤ 40) : ∀ (d f k : Nat) (S : sm_t), k + d = n → d < f → ∃ g, x8_copy_136 F f (nI to) (nI j) (nI n) (nI k) S = some (1, wf S 55 g) ∧ ∀ m, g m = if 40 * to + j + k ≤ m ∧ m < 40 * to + j + n then S.1 56 (m - (40 * to + j)) else S.1 55 m := by
  intro d
  induction d with
  | zero =>
    intro f k S h1 h2
    obtain ⟨f, rfl⟩ : ∃ f0, f = f0 + 1 := ⟨f - 1, by omega⟩
    refine ⟨S.1 55, ?_, fun k => by rw [if_neg (by omega)]⟩
    unfold x8_copy_136
    rw [wf_id]
    simp (disch := omega) only [tt_n, tt_cI, tt_cL, tt_cV, tt_rd, tt_wr, tt_wl, tt_le, tt_lt, tt_eq, tt_nI, if_pos, if_neg, tt_eta, ↓reduceIte, Int32.reduceToInt]
  | succ d ih =>
    intro f k S h1 h2
    obtain ⟨f, rfl⟩ : ∃ f0, f = f0 + 1 := ⟨f - 1, by omega⟩
    obtain ⟨g, e, hg⟩ := ih f (k + 1) (sm_wI S 55 (40 * to + j + k) (S.1 56 k)) (by omega) (by omega)
    refine ⟨g, ?_, fun m => ?_⟩
    · unfold x8_copy_136
      simp (disch := omega) only [tt_n, tt_cI, tt_cL, tt_cV, tt_rd, tt_wr, tt_wl, tt_le, tt_lt, tt_eq, tt_nI, if_pos, if_neg, tt_eta, ↓reduceIte, Int32.reduceToInt, nI_add, pk_mul, tk_m1, tk_n1, tk_a1, tk_b1, tk_m2, tk_n2, tk_a2, tk_b2, tk_m3, tk_n3, tk_a3, tk_b3, tk_m4, tk_n4, tk_a4, tk_b4, tk_m5, tk_n5, tk_a5, tk_b5, tk_m7, tk_n7, tk_a7, tk_b7, tk_m8, tk_n8, tk_a8, tk_b8, tk_m10, tk_n10, tk_a10, tk_b10, tk_m12, tk_n12, tk_a12, tk_b12, tk_m16, tk_n16, tk_a16, tk_b16, tk_m32, tk_n32, tk_a32, tk_b32, tk_m40, tk_n40, tk_a40, tk_b40, tk_m48, tk_n48, tk_a48, tk_b48, tk_m80, tk_n80, tk_a80, tk_b80, tk_m100, tk_n100, tk_a100, tk_b100, tk_m120, tk_n120, tk_a120, tk_b120, tk_m1000, tk_n1000, tk_a1000, tk_b1000]
      rw [e, wI_f, wf_wf]
    · rw [hg m, tt_1s, tt_1 (by omega)]
      by_cases q : m = 40 * to + j + k
      · rw [if_neg (by omega), if_pos q, if_pos (by omega)]
        rw [show m - (40 * to + j) = k by omega]
      · rw [if_neg q]
        by_cases q1 : 40 * to + j + k ≤ m ∧ m < 40 * to + j + n
        · rw [if_pos q1, if_pos (by omega)]
        · rw [if_neg q1, if_neg (by omega)]
theorem m_cp104 {F r i n : Nat} {to j : Int32} {z : zz} {J : sm_t} (hr : r < 6) (hi : i + n ≤ 40) : ∀ (d f k : Nat) (S : sm_t), mi z J S → k + d = n → d < f → (∀ m, m < k → S.1 56 m = z_rw z r (i + m)) → ∃ S1, x8_copy_104 F f (nI r) (nI i) to j (nI n) (nI k) S = x8_copy_136 F F to j (nI n) 0 S1 ∧ mi z J S1 ∧ ∀ m, m < n → S1.1 56 m = z_rw z r (i + m) := by
  intro d
  induction d with
  | zero =>
    intro f k S hm h1 h2 h3
    obtain ⟨f, rfl⟩ : ∃ f0, f = f0 + 1 := ⟨f - 1, by omega⟩
    refine ⟨S, ?_, hm, fun m h => h3 m (by omega)⟩
    rw [x8_copy_104]
    simp (disch := omega) only [tt_n, tt_cI, tt_cL, tt_cV, tt_rd, tt_wr, tt_wl, tt_le, tt_lt, tt_eq, tt_nI, if_pos, if_neg, tt_eta, ↓reduceIte, Int32.reduceToInt]
  | succ d ih =>
    intro f k S hm h1 h2 h3
    obtain ⟨f, rfl⟩ : ∃ f0, f = f0 + 1 := ⟨f - 1, by omega⟩
    obtain ⟨S1, e, hg⟩ := ih f (k + 1) (sm_wI S 56 k (z_rw z r (i + k))) (mc_sc hm (fun b hb => tt_1 (by omega)) ⟨rfl, rfl, rfl, rfl⟩ (fun b hb => rfl) ⟨rfl, rfl⟩ rfl) (by omega) (by omega) (fun m q => by
      rw [tt_1s]
      split
      · rename_i q; rw [q]
      · exact h3 m (by omega))
    refine ⟨S1, ?_, hg⟩
    rw [x8_copy_104]
    simp (disch := omega) only [tt_n, tt_cI, tt_cL, tt_cV, tt_rd, tt_wr, tt_wl, tt_le, tt_lt, tt_eq, tt_nI, if_pos, if_neg, tt_eta, ↓reduceIte, Int32.reduceToInt, nI_add, pk_mul, tk_m1, tk_n1, tk_a1, tk_b1, tk_m2, tk_n2, tk_a2, tk_b2, tk_m3, tk_n3, tk_a3, tk_b3, tk_m4, tk_n4, tk_a4, tk_b4, tk_m5, tk_n5, tk_a5, tk_b5, tk_m7, tk_n7, tk_a7, tk_b7, tk_m8, tk_n8, tk_a8, tk_b8, tk_m10, tk_n10, tk_a10, tk_b10, tk_m12, tk_n12, tk_a12, tk_b12, tk_m16, tk_n16, tk_a16, tk_b16, tk_m32, tk_n32, tk_a32, tk_b32, tk_m40, tk_n40, tk_a40, tk_b40, tk_m48, tk_n48, tk_a48, tk_b48, tk_m80, tk_n80, tk_a80, tk_b80, tk_m100, tk_n100, tk_a100, tk_b100, tk_m120, tk_n120, tk_a120, tk_b120, tk_m1000, tk_n1000, tk_a1000, tk_b1000, m_rowAt hm hr (show i + k < 40 by omega)]
    exact e
theorem q_copy {z : zz} {J K S T : sm_t} (hz : zw z) (hx : xi z J S) (hm : mi z K T) {F : Nat} (hF : 1000 < F) (r i to j n : Int32) : bt J K (x7_copy F r i to j n S) (x8_copy F r i to j n T) := by
  rcases tt_below r 6 (by omega) with ⟨r, hr, rfl⟩ | h
  · rcases tt_below to 6 (by omega) with ⟨to, ht, rfl⟩ | h
    · by_cases hn : n < 0
      · rw [tt_lt] at hn
        simp only [Int32.reduceToInt] at hn
        unfold x7_copy x8_copy
        simp (disch := omega) only [tt_n, tt_cI, tt_cL, tt_cV, tt_rd, tt_wr, tt_wl, tt_le, tt_lt, tt_eq, tt_nI, if_pos, if_neg, tt_eta, ↓reduceIte, Int32.reduceToInt, x_row1 hr, m_row1 hr, x_row1 ht, m_row1 ht, x_f5, m_f5]
        exact bt_fd hz hx hm (by omega)
      · obtain ⟨n, hn, rfl⟩ := nI_of hn
        have e := hx.2.1 r hr
        have e2 := hx.2.1 to ht
        have e3 := hm.2.1 r hr
        have e4 := hm.2.1 to ht
        cases hs : z_rs z r with
        | none =>
          rw [hs] at e e3
          change S.1 11 r = -1 at e
          change T.1 54 r = -9 at e3
          unfold x7_copy x8_copy
          simp (disch := omega) only [tt_n, tt_cI, tt_cL, tt_cV, tt_rd, tt_wr, tt_wl, tt_le, tt_lt, tt_eq, tt_nI, if_pos, if_neg, tt_eta, ↓reduceIte, Int32.reduceToInt, x_row1 hr, m_row1 hr, x_row1 ht, m_row1 ht, e, e3, x_f1, m_f1, tt_neg9]
          exact bt_fd hz hx hm (by omega)
        | some s =>
          have hs1 := hz.1 r s hs
          rw [hs] at e e3
          change S.1 11 r = nI s at e
          change T.1 54 r = nI s at e3
          cases ht2 : z_rs z to with
          | none =>
            rw [ht2] at e2 e4
            change S.1 11 to = -1 at e2
            change T.1 54 to = -9 at e4
            unfold x7_copy x8_copy
            simp (disch := omega) only [tt_n, tt_cI, tt_cL, tt_cV, tt_rd, tt_wr, tt_wl, tt_le, tt_lt, tt_eq, tt_nI, if_pos, if_neg, tt_eta, ↓reduceIte, Int32.reduceToInt, x_row1 hr, m_row1 hr, x_row1 ht, m_row1 ht, e, e3, e2, e4, x_f1, m_f1, tt_neg9, tt_neg1]
            exact bt_fd hz hx hm (by omega)
          | some u =>
            have hu1 := hz.1 to u ht2
            rw [ht2] at e2 e4
            change S.1 11 to = nI u at e2
            change T.1 54 to = nI u at e4
            unfold x7_copy x8_copy
            simp (disch := omega) only [tt_n, tt_cI, tt_cL, tt_cV, tt_rd, tt_wr, tt_wl, tt_le, tt_lt, tt_eq, tt_nI, if_pos, if_neg, tt_eta, ↓reduceIte, Int32.reduceToInt, x_row1 hr, m_row1 hr, x_row1 ht, m_row1 ht, e, e3, e2, e4, x_f2, m_f2, tt_neg9, tt_neg1, x_holds]
            by_cases hi : i.toInt < 0
            · simp (disch := omega) only [tt_n, tt_cI, tt_cL, tt_cV, tt_rd, tt_wr, tt_wl, tt_le, tt_lt, tt_eq, tt_nI, if_pos, if_neg, tt_eta, ↓reduceIte, Int32.reduceToInt]
              exact bt_fd hz hx hm (by omega)
            · by_cases hj : j.toInt < 0
              · simp (disch := omega) only [tt_n, tt_cI, tt_cL, tt_cV, tt_rd, tt_wr, tt_wl, tt_le, tt_lt, tt_eq, tt_nI, if_pos, if_neg, tt_eta, ↓reduceIte, Int32.reduceToInt]
                by_cases h : 0 ≤ i.toInt ∧ i.toInt + n ≤ s
                · simp (disch := omega) only [tt_n, tt_cI, tt_cL, tt_cV, tt_rd, tt_wr, tt_wl, tt_le, tt_lt, tt_eq, tt_nI, if_pos, if_neg, tt_eta, ↓reduceIte, Int32.reduceToInt]
                  exact bt_fd hz hx hm (by omega)
                · simp (disch := omega) only [tt_n, tt_cI, tt_cL, tt_cV, tt_rd, tt_wr, tt_wl, tt_le, tt_lt, tt_eq, tt_nI, if_pos, if_neg, tt_eta, ↓reduceIte, Int32.reduceToInt]
                  exact bt_fd hz hx hm (by omega)
              · obtain ⟨i, hi2, rfl⟩ := nI_of (x := i) (by rw [tt_lt]; exact hi)
                obtain ⟨j, hj2, rfl⟩ := nI_of (x := j) (by rw [tt_lt]; exact hj)
                simp (disch := omega) only [nI_l, lN_add, pk_lLT, pk_lLE]
                by_cases h : i + n ≤ s
                · by_cases h1 : j + n ≤ u
                  · simp (disch := omega) only [tt_n, tt_cI, tt_cL, tt_cV, tt_rd, tt_wr, tt_wl, tt_le, tt_lt, tt_eq, tt_nI, if_pos, if_neg, tt_eta, ↓reduceIte, Int32.reduceToInt, tt_an (tt_sq_row r hr), tt_an (tt_sq_row to ht)]
                    obtain ⟨T1, f1, f2, f3⟩ := m_cp104 (F := F) (to := nI to) (j := nI j) (z := z) (J := K) hr (show i + n ≤ 40 by omega) n F 0 T hm (by omega) (by omega) (fun m q => by omega)
                    obtain ⟨g, f4, f5⟩ := m_cp136 (F := F) ht (show j + n ≤ 40 by omega) n F 0 T1 (by omega) (by omega)
                    rw [show (0 : Int32) = nI 0 from rfl, f1]
                    rw [show (0 : Int32) = nI 0 from rfl, f4]
                    unfold sm_cp
                    rw [if_pos ⟨nI_pos (by omega), nI_pos (by omega), nI_pos (by omega), by rw [nI_clamp (by omega), nI_clamp (by omega)]; omega, by rw [nI_clamp (by omega), nI_clamp (by omega)]; omega⟩, nI_clamp (by omega), nI_clamp (by omega), nI_clamp (by omega)]
                    refine ⟨_, _, _, _, rfl, rfl, zw_rw hz, xi_rwg (r := to) (g := fun k => if j ≤ k ∧ k < j + n then z_rw z r (i + (k - j)) else z_rw z to k) hz hx ht (fun b hb => sm_up_o _ _ hb) rfl (fun k hk => ?_), mi_rwg f2 ht (fun b hb => wf_o hb) rfl (fun k hk => ?_) (fun k hk => ?_)⟩
                    · show va_up S.1 (5 + to) _ (5 + to) k = _
                      rw [sm_up_s]
                      unfold va_cpy
                      by_cases q : j ≤ k ∧ k < j + n
                      · rw [if_pos q, if_pos q]
                        exact hx.2.2.1 r _ hr (by omega)
                      · rw [if_neg q, if_neg q]
                        exact hx.2.2.1 to k ht hk
                    · rw [wf_s, f5]
                      by_cases q : j ≤ k ∧ k < j + n
                      · rw [if_pos (by omega), if_pos q, f3 _ (by omega)]
                        congr 2
                        omega
                      · rw [if_neg (by omega), if_neg q]
                        exact f2.2.2.1 to k ht hk
                    · rw [wf_s, f5, if_neg (by omega)]
                  · simp (disch := omega) only [tt_n, tt_cI, tt_cL, tt_cV, tt_rd, tt_wr, tt_wl, tt_le, tt_lt, tt_eq, tt_nI, if_pos, if_neg, tt_eta, ↓reduceIte, Int32.reduceToInt]
                    exact bt_fd hz hx hm (by omega)
                · simp (disch := omega) only [tt_n, tt_cI, tt_cL, tt_cV, tt_rd, tt_wr, tt_wl, tt_le, tt_lt, tt_eq, tt_nI, if_pos, if_neg, tt_eta, ↓reduceIte, Int32.reduceToInt]
                  exact bt_fd hz hx hm (by omega)
    · unfold x7_copy x8_copy
      rw [x_row1 hr, m_row1 hr, tt_cI, tt_cI, if_neg (by decide), if_neg (by decide), x_row0 h, m_row0 h]
      exact bt_same hz hx hm (-1)
  · unfold x7_copy x8_copy
    rw [x_row0 h, m_row0 h]
    exact bt_same hz hx hm (-1)
