/-! ===== findings, flight ===== -/
theorem tt_from (x : Int32) (a b : Nat) (hb : b < 2147483647) : (∃ j : Nat, a ≤ j ∧ j ≤ b ∧ x = nI j) ∨ (x.toInt < (a : Int) ∨ (b : Int) < x.toInt) := by
  rcases tt_below x (b + 1) (by omega) with ⟨j, hj, rfl⟩ | h
  · by_cases q : a ≤ j
    · exact Or.inl ⟨j, q, by omega, rfl⟩
    · right
      rw [tt_nI (by omega)]
      omega
  · right
    omega
theorem m_inAB {F n a b : Nat} {S : sm_t} (h : a ≤ n) (h2 : n ≤ b) (hb : b < 2147483648) : x8_in F (nI n) (nI a) (nI b) S = some (1, S) := by
  rw [m_in, if_neg (nI_nlt h (by omega)), if_neg (nI_nlt h2 (by omega))]
theorem m_inABN {F a b : Nat} {x : Int32} {S : sm_t} (h : x.toInt < (a : Int) ∨ (b : Int) < x.toInt) (ha : a < 2147483648) (hb : b < 2147483648) : x8_in F x (nI a) (nI b) S = some (0, S) := by
  rw [m_in]
  by_cases h1 : x < nI a
  · rw [if_pos h1]
  · rw [if_neg h1, if_pos]
    rw [tt_lt, tt_nI ha] at h1
    rw [tt_lt, tt_nI hb]
    omega
theorem q_findings {z : zz} {J K S T : sm_t} (hz : zw z) (hx : xi z J S) (hm : mi z K T) {F : Nat} (f : Int32) : bt J K (x7_findings F f S) (x8_findings F f T) := by
  unfold x7_findings x8_findings
  rw [show (1 : Int32) = nI 1 from rfl, show (5 : Int32) = nI 5 from rfl]
  rcases tt_from f 1 5 (by omega) with ⟨f, h1, h2, rfl⟩ | h
  · rw [m_inAB h1 h2 (by omega)]
    simp (disch := first | omega | (simp (disch := omega) only [tt_le, tt_lt, tt_eq, tt_nI, Int32.reduceToInt, tt_neg9, tt_neg1, tt_neg3] <;> omega) | fail) only [↓tt_n, ↓tt_cI, ↓tt_cL, ↓tt_cV, ↓tt_rd, ↓tt_wr, ↓tt_wl, ↓if_pos, ↓if_neg, ↓tt_eta, ↓tt_r _ (hx.2.2.2.2.2.2.2.2.1.2.2.2.2 f (by omega)), ↓tt_r _ (hm.2.2.2.2.2.2.2.2.1.2.2.2.2 f (by omega))]
    exact bt_same hz hx hm _
  · rw [m_inABN h (by omega) (by omega)]
    by_cases q : f < nI 1
    · rw [if_pos q]
      exact bt_same hz hx hm (-1)
    · rw [if_neg q, if_neg]
      · exact bt_same hz hx hm (-1)
      · rw [tt_le, tt_nI (by omega)]
        rw [tt_lt, tt_nI (by omega)] at q
        omega
theorem tt_side (x : Int32) : (∃ j : Nat, j < 8 ∧ x = nI j) ∨ (x.toInt < 0 ∨ 8 ≤ x.toInt) := tt_below x 8 (by omega)
theorem b_fl1 {z : zz} {J K S T : sm_t} (hz : zw z) (hx : xi z J S) (hm : mi z K T) {F r n : Nat} {c : Int32} (hr : r < 6) (hs : z_rs z r = some n) : ∀ (d f k : Nat), k + d = n → d < f → (x7_flight_51 F f c (nI r) (nI k) S = x7_flight_87 F c (nI r) S ∧ x8_flight_45 F f c (nI r) (nI n) (nI k) T = x8_flight_77 F c (nI r) (nI n) T ∧ ∀ h, k ≤ h → h < n → ∃ j, j < 8 ∧ z_rw z r h = nI j) ∨ (x7_flight_51 F f c (nI r) (nI k) S = some (-3, xfd S 3) ∧ x8_flight_45 F f c (nI r) (nI n) (nI k) T = some (-3, mfd T 3)) := by
  have e := hx.2.1 r hr
  have hn := hz.1 r n hs
  rw [hs] at e
  change S.1 11 r = nI n at e
  intro d
  induction d with
  | zero =>
    intro f k h1 h2
    obtain ⟨f, rfl⟩ : ∃ f0, f = f0 + 1 := ⟨f - 1, by omega⟩
    rw [x7_flight_51, x8_flight_45, tt_r _ e hr (by omega), if_pos (nI_le (by omega) (by omega)), if_pos (nI_le (by omega) (by omega))]
    exact Or.inl ⟨rfl, rfl, fun h q1 q2 => by omega⟩
  | succ d ih =>
    intro f k h1 h2
    obtain ⟨f, rfl⟩ : ∃ f0, f = f0 + 1 := ⟨f - 1, by omega⟩
    rw [x7_flight_51, x8_flight_45, tt_r _ e hr (by omega), if_neg (nI_ge (by omega) (by omega)), if_neg (nI_ge (by omega) (by omega)), tt_rd (by omega) (by omega), tt_an (tt_sq_row r hr), tt_r _ (hx.2.2.1 r k hr (by omega)) (by omega) (by omega), m_rowAt hm hr (by omega), tt_cI]
    rcases tt_side (z_rw z r k) with ⟨j, hj, q⟩ | q
    · rw [q, x_side1 hj, m_side1 hj, tt_cI, tt_cI, if_neg (by decide), if_neg (by decide), nI_1]
      rcases ih f (k + 1) (by omega) (by omega) with ⟨a1, a2, a3⟩ | a
      · refine Or.inl ⟨a1, a2, fun h q1 q2 => ?_⟩
        by_cases q3 : h = k
        · exact ⟨j, hj, q3 ▸ q⟩
        · exact a3 h (by omega) q2
      · exact Or.inr a
    · rw [x_side0 q, m_side0 q, tt_cI, tt_cI, if_pos rfl, if_pos rfl, x_f3, m_f3]
      exact Or.inr ⟨rfl, rfl⟩
theorem m_fl139 {F n : Nat} (hn : n ≤ 6) : ∀ (d f k : Nat) (S : sm_t), k + d = 7 → d < f → ∃ g, x8_flight_139 F f (nI n) (nI k) S = some (nI n, wf S 59 g) ∧ ∀ m, g m = if 8 + k ≤ m ∧ m < 15 then (if m = 8 + n then 1 else if m < 8 + n then 0 else -9) else S.1 59 m := by
  intro d
  induction d with
  | zero =>
    intro f k S h1 h2
    obtain ⟨f, rfl⟩ : ∃ f0, f = f0 + 1 := ⟨f - 1, by omega⟩
    refine ⟨S.1 59, ?_, fun k => by rw [if_neg (by omega)]⟩
    unfold x8_flight_139
    rw [wf_id]
    simp (disch := omega) only [tt_n, tt_cI, tt_cL, tt_cV, tt_rd, tt_wr, tt_wl, tt_le, tt_lt, tt_eq, tt_nI, if_pos, if_neg, tt_eta, ↓reduceIte, Int32.reduceToInt]
  | succ d ih =>
    intro f k S h1 h2
    obtain ⟨f, rfl⟩ : ∃ f0, f = f0 + 1 := ⟨f - 1, by omega⟩
    obtain ⟨g, e, hg⟩ := ih f (k + 1) (sm_wI S 59 (8 + k) (if 8 + k = 8 + n then 1 else if 8 + k < 8 + n then 0 else -9)) (by omega) (by omega)
    refine ⟨g, ?_, fun m => ?_⟩
    · rw [wI_f, wf_wf] at e
      rw [← e, ← wI_f, x8_flight_139]
      by_cases q : k = n
      · subst q
        simp (disch := first | omega | (simp (disch := omega) only [tt_le, tt_lt, tt_eq, tt_nI, Int32.reduceToInt, tt_neg9, tt_neg1, tt_neg3] <;> omega) | fail) only [↓tt_n, ↓tt_cI, ↓tt_cL, ↓tt_cV, ↓tt_rd, ↓tt_wr, ↓tt_wl, ↓if_pos, ↓if_neg, ↓tt_eta, tk_a8, tk_b1]
      · by_cases q1 : k < n
        · have q2 : ¬ nI k = nI n := fun q3 => q ((nI_eq (by omega) (by omega)).mp q3)
          simp (disch := first | omega | (simp (disch := omega) only [tt_le, tt_lt, tt_eq, tt_nI, Int32.reduceToInt, tt_neg9, tt_neg1, tt_neg3] <;> omega) | fail) only [↓tt_n, ↓tt_cI, ↓tt_cL, ↓tt_cV, ↓tt_rd, ↓tt_wr, ↓tt_wl, ↓if_pos, ↓if_neg, ↓tt_eta, tk_a8, tk_b1]
        · simp (disch := first | omega | (simp (disch := omega) only [tt_le, tt_lt, tt_eq, tt_nI, Int32.reduceToInt, tt_neg9, tt_neg1, tt_neg3] <;> omega) | fail) only [↓tt_n, ↓tt_cI, ↓tt_cL, ↓tt_cV, ↓tt_rd, ↓tt_wr, ↓tt_wl, ↓if_pos, ↓if_neg, ↓tt_eta, tk_a8, tk_b1]
    · rw [hg m, tt_1s]
      by_cases q : m = 8 + k
      · subst q
        rw [if_neg (by omega), if_pos rfl]
        exact (if_pos (by omega)).symm
      · rw [if_neg q]
        by_cases q1 : 8 + k ≤ m ∧ m < 15
        · rw [if_pos q1, if_pos (by omega)]
        · rw [if_neg q1, if_neg (by omega)]
theorem m_fl95 {F r n : Nat} {w : Nat → Int32} (hr : r < 6) (hn : n ≤ 6) : ∀ (d f k : Nat) (S : sm_t), (∀ k, k < 40 → S.1 55 (40 * r + k) = w k) → k + d = 6 → d < f → ∃ g, x8_flight_95 F f (nI r) (nI n) (nI k) S = x8_flight_139 F F (nI n) 0 (wf S 59 g) ∧ ∀ m, g m = if 2 + k ≤ m ∧ m < 8 then (if m < 2 + n then w (m - 2) else -9) else S.1 59 m := by
  intro d
  induction d with
  | zero =>
    intro f k S hw h1 h2
    obtain ⟨f, rfl⟩ : ∃ f0, f = f0 + 1 := ⟨f - 1, by omega⟩
    refine ⟨S.1 59, ?_, fun k => by rw [if_neg (by omega)]⟩
    rw [x8_flight_95, wf_id]
    simp (disch := omega) only [tt_n, tt_cI, tt_cL, tt_cV, tt_rd, tt_wr, tt_wl, tt_le, tt_lt, tt_eq, tt_nI, if_pos, if_neg, tt_eta, ↓reduceIte, Int32.reduceToInt]
  | succ d ih =>
    intro f k S hw h1 h2
    obtain ⟨f, rfl⟩ : ∃ f0, f = f0 + 1 := ⟨f - 1, by omega⟩
    obtain ⟨g, e, hg⟩ := ih f (k + 1) (sm_wI S 59 (2 + k) (if k < n then w k else -9)) (fun m hm => by rw [tt_1 (by omega)]; exact hw m hm) (by omega) (by omega)
    refine ⟨g, ?_, fun m => ?_⟩
    · rw [wI_f, wf_wf] at e
      rw [← e, ← wI_f, x8_flight_95]
      by_cases q1 : k < n
      · have e5 : x8_rowAt F (nI r) (nI k) S = some (w k, S) := by
          unfold x8_rowAt
          simp (disch := omega) only [tt_n, tt_cI, tt_cL, tt_cV, tt_rd, tt_wr, tt_wl, tt_le, tt_lt, tt_eq, tt_nI, if_pos, if_neg, tt_eta, ↓reduceIte, Int32.reduceToInt, tk_m40, nI_add]
          rw [hw k (by omega)]
        simp (disch := first | omega | (simp (disch := omega) only [tt_le, tt_lt, tt_eq, tt_nI, Int32.reduceToInt, tt_neg9, tt_neg1, tt_neg3] <;> omega) | fail) only [↓tt_n, ↓tt_cI, ↓tt_cL, ↓tt_cV, ↓tt_rd, ↓tt_wr, ↓tt_wl, ↓if_pos, ↓if_neg, ↓tt_eta, tk_a2, tk_b1, ↓tt_e _ e5]
      · simp (disch := first | omega | (simp (disch := omega) only [tt_le, tt_lt, tt_eq, tt_nI, Int32.reduceToInt, tt_neg9, tt_neg1, tt_neg3] <;> omega) | fail) only [↓tt_n, ↓tt_cI, ↓tt_cL, ↓tt_cV, ↓tt_rd, ↓tt_wr, ↓tt_wl, ↓if_pos, ↓if_neg, ↓tt_eta, tk_a2, tk_b1]
    · rw [hg m, tt_1s]
      by_cases q : m = 2 + k
      · subst q
        rw [if_neg (by omega), if_pos rfl]
        refine Eq.trans ?_ (if_pos (by omega)).symm
        rw [show 2 + k - 2 = k by omega]
        by_cases q1 : k < n
        · rw [if_pos q1, if_pos (by omega)]
        · rw [if_neg q1, if_neg (by omega)]
      · rw [if_neg q]
        by_cases q1 : 2 + k ≤ m ∧ m < 8
        · rw [if_pos q1, if_pos (by omega)]
        · rw [if_neg q1, if_neg (by omega)]
