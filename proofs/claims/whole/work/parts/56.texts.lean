/-! ===== mean; texts ===== -/
theorem tt_e {ρ : Type} {o : Option (Int32 × sm_t)} {v : Int32} {S1 : sm_t} (K : Int32 → sm_t → Option ρ) (h : o = some (v, S1)) : sm_cI o K = K v S1 := by
  rw [h]
  rfl
theorem tt_eL {ρ : Type} {o : Option (Int64 × sm_t)} {v : Int64} {S1 : sm_t} (K : Int64 → sm_t → Option ρ) (h : o = some (v, S1)) : sm_cL o K = K v S1 := by
  rw [h]
  rfl
theorem tt_eV {ρ : Type} {o : Option sm_t} {S1 : sm_t} (K : sm_t → Option ρ) (h : o = some S1) : sm_cV o K = K S1 := by
  rw [h]
  rfl
theorem tt_r {α ρ : Type} {f : Nat → α} {n j : Nat} {v : α} (K : α → Option ρ) (e : f j = v) (h : j < n) (hn : n < 2147483648) : sm_rd f n (nI j) K = K v := by
  rw [tt_rd h (by omega), e]
def zt_sum (g : Nat → Int32) : Nat → Int64
  | 0 => 0
  | n + 1 => zt_sum g n + (g n).toInt64
theorem x_mean42 {F r n : Nat} {z : zz} {J S : sm_t} (h : xi z J S) (hr : r < 6) (hn : n ≤ 40) : ∀ (d f k : Nat), k + d = n → d < f → x7_mean_42 F f (nI r) (nI n) (zt_sum (z_rw z r) k) (nI k) S = x7_mean_67 F (nI n) (zt_sum (z_rw z r) n) S := by
  intro d
  induction d with
  | zero =>
    intro f k h1 h2
    obtain ⟨f, rfl⟩ : ∃ f0, f = f0 + 1 := ⟨f - 1, by omega⟩
    rw [x7_mean_42, if_pos (nI_le (by omega) (by omega)), show k = n by omega]
  | succ d ih =>
    intro f k h1 h2
    obtain ⟨f, rfl⟩ : ∃ f0, f = f0 + 1 := ⟨f - 1, by omega⟩
    rw [x7_mean_42, if_neg (nI_ge (by omega) (by omega)), tt_rd (by omega) (by omega), tt_an (tt_sq_row r hr), tt_r _ (h.2.2.1 r k hr (by omega)) (by omega) (by omega), tt_n, nI_1]
    exact ih f (k + 1) (by omega) (by omega)
theorem m_mean17 {F r n : Nat} {z : zz} {J S : sm_t} (h : mi z J S) (hr : r < 6) (hn : n ≤ 40) (hs : z_rs z r = some n) : ∀ (d f k : Nat), k + d = n → d < f → x8_mean_17 F f (nI r) (zt_sum (z_rw z r) k) (nI k) S = x8_mean_45 F (nI r) (zt_sum (z_rw z r) n) S := by
  have e := h.2.1 r hr
  rw [hs] at e
  change S.1 54 r = nI n at e
  intro d
  induction d with
  | zero =>
    intro f k h1 h2
    obtain ⟨f, rfl⟩ : ∃ f0, f = f0 + 1 := ⟨f - 1, by omega⟩
    rw [x8_mean_17, tt_r _ e hr (by omega), if_pos (nI_le (by omega) (by omega)), show k = n by omega]
  | succ d ih =>
    intro f k h1 h2
    obtain ⟨f, rfl⟩ : ∃ f0, f = f0 + 1 := ⟨f - 1, by omega⟩
    rw [x8_mean_17, tt_r _ e hr (by omega), if_neg (nI_ge (by omega) (by omega)), m_rowAt h hr (by omega), tt_cI, tt_n, nI_1]
    exact ih f (k + 1) (by omega) (by omega)
theorem q_mean {z : zz} {J K S T : sm_t} (hz : zw z) (hx : xi z J S) (hm : mi z K T) {F : Nat} (hF : 1000 < F) (r : Int32) : bt J K (x7_mean F r S) (x8_mean F r T) := by
  rcases tt_below r 6 (by omega) with ⟨r, hr, rfl⟩ | h
  · have e := hx.2.1 r hr
    have e3 := hm.2.1 r hr
    cases hs : z_rs z r with
    | none =>
      rw [hs] at e
      change S.1 11 r = -1 at e
      unfold x7_mean x8_mean
      simp (disch := first | omega | (simp (disch := omega) only [tt_le, tt_lt, tt_eq, tt_nI, Int32.reduceToInt, tt_neg9, tt_neg1, tt_neg3] <;> omega) | fail) only [↓tt_n, ↓tt_cI, ↓tt_cL, ↓tt_cV, ↓tt_rd, ↓tt_wr, ↓tt_wl, ↓if_pos, ↓if_neg, ↓tt_eta, ↓tt_e _ (x_row1 hr), ↓tt_r _ e, ↓tt_e _ (m_ask1 hm hr hs), x_f1]
      exact bt_fd hz hx hm (by omega)
    | some n =>
      have hn := hz.1 r n hs
      rw [hs] at e e3
      change S.1 11 r = nI n at e
      change T.1 54 r = nI n at e3
      unfold x7_mean x8_mean
      rw [tt_e _ (m_ask2 hz hm hr hs), if_pos (by decide)]
      have e4 := m_mean17 (F := F) hm hr hn hs n F 0 (by omega) (by omega)
      change x8_mean_17 F F (nI r) 0 0 T = _ at e4
      rw [e4]
      by_cases q : n = 0
      · subst q
        unfold x8_mean_45
        simp (disch := first | omega | (simp (disch := omega) only [tt_le, tt_lt, tt_eq, tt_nI, Int32.reduceToInt, tt_neg9, tt_neg1, tt_neg3] <;> omega) | fail) only [↓tt_n, ↓tt_cI, ↓tt_cL, ↓tt_cV, ↓tt_rd, ↓tt_wr, ↓tt_wl, ↓if_pos, ↓if_neg, ↓tt_eta, ↓tt_e _ (x_row1 hr), ↓tt_r _ e, ↓tt_r _ e3, x_f4, m_f4]
        exact bt_fd hz hx hm (by omega)
      · have e5 := x_mean42 (F := F) hx hr hn n F 0 (by omega) (by omega)
        change x7_mean_42 F F (nI r) (nI n) 0 0 S = _ at e5
        simp (disch := first | omega | (simp (disch := omega) only [tt_le, tt_lt, tt_eq, tt_nI, Int32.reduceToInt, tt_neg9, tt_neg1, tt_neg3] <;> omega) | fail) only [↓tt_n, ↓tt_cI, ↓tt_cL, ↓tt_cV, ↓tt_rd, ↓tt_wr, ↓tt_wl, ↓if_pos, ↓if_neg, ↓tt_eta, ↓tt_e _ (x_row1 hr), ↓tt_r _ e]
        rw [e5]
        have q1 : ¬ (nI n).toInt64 = 0 := by
          rw [nI_l (by omega)]
          exact fun q2 => q ((pk_lEQ (b := 0) (by omega) (by omega)).mp q2)
        unfold x8_mean_45 x7_mean_67
        rw [if_neg q1, tt_r _ e3 hr (by omega), if_neg (nI_ne0 (by omega) (by omega)), tt_r _ e3 hr (by omega), if_neg q1]
        exact bt_ak hz hx hm _ _
  · unfold x7_mean x8_mean
    rw [x_row0 h, m_ask0 h]
    exact bt_same hz hx hm (-1)
