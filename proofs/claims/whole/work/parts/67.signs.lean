/-! ===== signs ===== -/
theorem b_sg2 {F r n : Nat} {J K : sm_t} {w : Nat → Int32} (hr : r < 6) (hn : n ≤ 10) (hw : ∀ k, k < n → ∃ kn an bn cn : Nat, fz (w (4 * k)) (w (4 * k + 1)) (w (4 * k + 2)) (w (4 * k + 3)) kn an bn cn) : ∀ (d f k : Nat) (z : zz) (S T : sm_t), zw z → xi z J S → mi z K T → z_rw z r = w → z_sn z + d ≤ 12 → k + d = n → d < f → bt J K (x7_signs_119 F f (nI (4 * n)) (5 + r) (nI (4 * k)) S) (x8_signs_125 F f (nI r) (nI n) (nI k) T) := by
  intro d
  induction d with
  | zero =>
    intro f k z S T hz hx hm hq h0 h1 h2
    obtain ⟨f, rfl⟩ : ∃ f0, f = f0 + 1 := ⟨f - 1, by omega⟩
    rw [x7_signs_119, x8_signs_125, tk_b3, if_pos (nI_le (by omega) (by omega)), if_pos (nI_le (by omega) (by omega)), show nI (4 * n) / 4 = nI (4 * n / 4) from pk_div (d := 4) (by omega) (by omega) (by omega), show 4 * n / 4 = n by omega]
    exact bt_same hz hx hm _
  | succ d ih =>
    intro f k z S T hz hx hm hq h0 h1 h2
    obtain ⟨f, rfl⟩ : ∃ f0, f = f0 + 1 := ⟨f - 1, by omega⟩
    obtain ⟨kn, an, bn, cn, hf⟩ := hw k (by omega)
    obtain ⟨S1, e1, i1⟩ := x_add (F := F) hz hx (by omega) hf
    obtain ⟨T1, e2, i2⟩ := m_add (F := F) hm (by omega) hf
    rw [x7_signs_119, x8_signs_125, tk_b3, if_neg (nI_ge (by omega) (by omega)), if_neg (nI_ge (by omega) (by omega)), tt_an (tt_sq_row r hr), tk_b1, tk_b2, tk_b4, tk_m4, tk_b1, tk_b2, tk_b3,
      tt_r _ (hx.2.2.1 r (4 * k) hr (by omega)) (by omega) (by omega), tt_r _ (hx.2.2.1 r (4 * k + 1) hr (by omega)) (by omega) (by omega), tt_r _ (hx.2.2.1 r (4 * k + 2) hr (by omega)) (by omega) (by omega), tt_r _ (hx.2.2.1 r (4 * k + 3) hr (by omega)) (by omega) (by omega),
      m_rowAt hm hr (by omega), tt_cI, m_rowAt hm hr (by omega), tt_cI, m_rowAt hm hr (by omega), tt_cI, m_rowAt hm hr (by omega), tt_cI, hq, e1, e2, tt_cI, tt_cI, nI_1]
    exact ih f (k + 1) _ S1 T1 (zw_ad hz (by omega) hf.2.2.2.2.2) i1 i2 hq (by show z_sn z + 1 + d ≤ 12; omega) (by omega) (by omega)
theorem b_sg1 {z : zz} {J K S T : sm_t} (hz : zw z) (hx : xi z J S) (hm : mi z K T) {F r n : Nat} (hr : r < 6) (hn : n ≤ 10) : ∀ (d f k : Nat), k + d = n → d < f → (∀ j, j < k → ∃ kn an bn cn : Nat, fz (z_rw z r (4 * j)) (z_rw z r (4 * j + 1)) (z_rw z r (4 * j + 2)) (z_rw z r (4 * j + 3)) kn an bn cn) → (x7_signs_68 F f (nI (4 * n)) (5 + r) (nI (4 * k)) S = x7_signs_119 F F (nI (4 * n)) (5 + r) 0 S ∧ x8_signs_56 F f (nI r) (nI n) (nI k) T = x8_signs_125 F F (nI r) (nI n) 0 T ∧ ∀ j, j < n → ∃ kn an bn cn : Nat, fz (z_rw z r (4 * j)) (z_rw z r (4 * j + 1)) (z_rw z r (4 * j + 2)) (z_rw z r (4 * j + 3)) kn an bn cn) ∨ (x7_signs_68 F f (nI (4 * n)) (5 + r) (nI (4 * k)) S = some (-3, xfd S 3) ∧ x8_signs_56 F f (nI r) (nI n) (nI k) T = some (-3, mfd T 3)) := by
  intro d
  induction d with
  | zero =>
    intro f k h1 h2 h3
    obtain ⟨f, rfl⟩ : ∃ f0, f = f0 + 1 := ⟨f - 1, by omega⟩
    rw [x7_signs_68, x8_signs_56, tk_b3, if_pos (nI_le (by omega) (by omega)), if_pos (nI_le (by omega) (by omega))]
    exact Or.inl ⟨rfl, rfl, fun j hj => h3 j (by omega)⟩
  | succ d ih =>
    intro f k h1 h2 h3
    obtain ⟨f, rfl⟩ : ∃ f0, f = f0 + 1 := ⟨f - 1, by omega⟩
    rw [x7_signs_68, x8_signs_56, tk_b3, if_neg (nI_ge (by omega) (by omega)), if_neg (nI_ge (by omega) (by omega)), tt_an (tt_sq_row r hr), tk_b1, tk_b2, tk_b4, tk_m4, tk_b1, tk_b2, tk_b3,
      tt_r _ (hx.2.2.1 r (4 * k) hr (by omega)) (by omega) (by omega), tt_r _ (hx.2.2.1 r (4 * k + 1) hr (by omega)) (by omega) (by omega), tt_r _ (hx.2.2.1 r (4 * k + 2) hr (by omega)) (by omega) (by omega), tt_r _ (hx.2.2.1 r (4 * k + 3) hr (by omega)) (by omega) (by omega),
      m_rowAt hm hr (by omega), tt_cI, m_rowAt hm hr (by omega), tt_cI, m_rowAt hm hr (by omega), tt_cI, m_rowAt hm hr (by omega), tt_cI]
    rcases b_fit (F := F) (z_rw z r (4 * k)) (z_rw z r (4 * k + 1)) (z_rw z r (4 * k + 2)) (z_rw z r (4 * k + 3)) with h | ⟨kn, an, bn, cn, hf, h⟩
    · rw [(h S).1, (h T).2, tt_cI, tt_cI, if_pos rfl, if_pos rfl, x_f3, m_f3]
      exact Or.inr ⟨rfl, rfl⟩
    · rw [(h S).1, (h T).2, tt_cI, tt_cI, if_neg (by decide), if_neg (by decide), nI_1]
      exact ih f (k + 1) (by omega) (by omega) (fun j hj => by
        by_cases q : j = k
        · rw [q]
          exact ⟨kn, an, bn, cn, hf⟩
        · exact h3 j (by omega))
theorem q_signs {z : zz} {J K S T : sm_t} (hz : zw z) (hx : xi z J S) (hm : mi z K T) {F : Nat} (hF : 1000 < F) (r : Int32) : bt J K (x7_signs F r S) (x8_signs F r T) := by
  have hk := hz.2.2.2.2.1
  rcases tt_below r 6 (by omega) with ⟨r, hr, rfl⟩ | h
  · have e := hx.2.1 r hr
    have e3 := hm.2.1 r hr
    cases hs : z_rs z r with
    | none =>
      rw [hs] at e
      change S.1 11 r = -1 at e
      unfold x7_signs x8_signs
      simp (disch := first | omega | (simp (disch := omega) only [tt_le, tt_lt, tt_eq, tt_nI, Int32.reduceToInt, tt_neg9, tt_neg1, tt_neg3] <;> omega) | fail) only [↓tt_n, ↓tt_cI, ↓tt_cL, ↓tt_cV, ↓tt_rd, ↓tt_wr, ↓tt_wl, ↓if_pos, ↓if_neg, ↓tt_eta, ↓tt_e _ (x_row1 hr), ↓tt_r _ e, ↓tt_e _ (m_ask1 hm hr hs), x_f1]
      exact bt_fd hz hx hm (by omega)
    | some s =>
      have hn := hz.1 r s hs
      rw [hs] at e e3
      change S.1 11 r = nI s at e
      change T.1 54 r = nI s at e3
      unfold x7_signs x8_signs
      rw [tt_e _ (x_row1 hr), if_neg (by decide), tt_r _ e hr (by omega), if_neg (by rw [tt_eq, tt_nI (by omega), tt_neg1]; omega), tt_e _ (m_ask2 hz hm hr hs), if_pos (show (0 : Int32) ≤ 0 by decide), tt_r _ e3 hr (by omega), tt_n, tt_n, tt_r _ e3 hr (by omega), show nI s / 4 = nI (s / 4) from pk_div (d := 4) (by omega) (by omega) (by omega), show sm_ir (nI s) 4 = nI (s % 4) from pk_rem (d := 4) (by omega) (by omega) (by omega), tk_m4, tt_n, hx.2.2.2.2.2.2.2.1.1, hm.2.2.2.2.2.2.2.1.1, nI_add]
      by_cases q : s % 4 = 0
      · rw [if_pos (by rw [q]; rfl), if_pos (show nI s = nI (4 * (s / 4)) by rw [show 4 * (s / 4) = s by omega]), show (12 : Int32) = nI 12 from rfl]
        obtain ⟨n, rfl⟩ : ∃ n, s = 4 * n := ⟨s / 4, by omega⟩
        rw [show 4 * n / 4 = n by omega]
        by_cases q1 : z_sn z + n ≤ 12
        · rw [if_pos (nI_le q1 (by omega)), if_pos (nI_le q1 (by omega)), tt_rd hr (by omega)]
          have b := b_sg1 (F := F) hz hx hm hr (show n ≤ 10 by omega) n F 0 (by omega) (by omega) (fun j hj => by omega)
          rcases b with ⟨b1, b2, b3⟩ | ⟨b1, b2⟩
          · have b4 := b_sg2 (F := F) (J := J) (K := K) hr (show n ≤ 10 by omega) b3 n F 0 z S T hz hx hm rfl q1 (by omega) (by omega)
            exact (show x7_signs_68 F F (nI (4 * n)) (5 + r) 0 S = _ from b1) ▸ (show x8_signs_56 F F (nI r) (nI n) 0 T = _ from b2) ▸ b4
          · rw [show x7_signs_68 F F (nI (4 * n)) (5 + r) 0 S = _ from b1, show x8_signs_56 F F (nI r) (nI n) 0 T = _ from b2]
            exact bt_fd hz hx hm (by omega)
        · rw [if_neg (nI_ge (by omega) (by omega)), if_neg (nI_ge (by omega) (by omega))]
          exact bt_same hz hx hm (-2)
      · rw [if_neg (nI_ne0 (by omega) (by omega)), if_neg (show ¬ nI s = nI (4 * (s / 4)) from fun p => by have := (nI_eq (by omega) (by omega)).mp p; omega), x_f5, m_f5]
        exact bt_fd hz hx hm (by omega)
  · unfold x7_signs x8_signs
    rw [x_row0 h, m_ask0 h]
    exact bt_same hz hx hm (-1)
