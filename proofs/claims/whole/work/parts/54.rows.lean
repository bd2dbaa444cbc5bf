/-! ===== rows ===== -/
def z1r (v : Nat → Option Nat) (r : Nat) (o : Option Nat) : Nat → Option Nat := fun i => if i = r then o else v i
def z2r (v : Nat → Nat → Int32) (r : Nat) (g : Nat → Int32) : Nat → Nat → Int32 := fun i k => if i = r then g k else v i k
theorem zw_rs {z : zz} {r : Nat} {o : Option Nat} (hz : zw z) (h : ∀ n, o = some n → n ≤ 40) : zw (zq_rs z (z1r (z_rs z) r o)) := by
  refine ⟨fun i n hn => ?_, hz.2⟩
  change (if i = r then o else z_rs z i) = some n at hn
  split at hn
  · exact h n hn
  · exact hz.1 i n hn
theorem zw_rw {z : zz} {v : Nat → Nat → Int32} (hz : zw z) : zw (zq_rw z v) := hz
theorem xi_rs {z : zz} {J S : sm_t} {r : Nat} {o : Option Nat} (hz : zw z) (h : xi z J S) (hr : r < 6) : xi (zq_rs z (z1r (z_rs z) r o)) J (sm_wI S 11 r (z_x o)) := by
  refine xc_rs _ hz h (fun b hb => tt_1 hb) rfl (fun i hi => ?_)
  rw [tt_1s]
  unfold z1r
  split
  · rfl
  · exact h.2.1 i hi
theorem mi_rs {z : zz} {J S : sm_t} {r : Nat} {o : Option Nat} (h : mi z J S) (hr : r < 6) : mi (zq_rs z (z1r (z_rs z) r o)) J (sm_wI S 54 r (z_m o)) := by
  refine mc_rs _ h (fun b hb => tt_1 hb) rfl (fun i hi => ?_)
  rw [tt_1s]
  unfold z1r
  split
  · rfl
  · exact h.2.1 i hi
theorem xi_rw {z : zz} {J S : sm_t} {r : Nat} {g : Nat → Int32} (hz : zw z) (h : xi z J S) (hr : r < 6) : xi (zq_rw z (z2r (z_rw z) r g)) J (wf S (5 + r) g) := by
  refine xc_rw _ hz h (fun b hb => wf_o (by omega)) rfl (fun i k hi hk => ?_)
  unfold z2r
  by_cases q : i = r
  · rw [if_pos q, q, wf_s]
  · rw [if_neg q, wf_o (by omega)]
    exact h.2.2.1 i k hi hk
theorem mi_rw {z : zz} {J S : sm_t} {r : Nat} {g g1 : Nat → Int32} (h : mi z J S) (hr : r < 6) (hg : ∀ k, k < 40 → g1 (40 * r + k) = g k) (ho : ∀ k, ¬ (40 * r ≤ k ∧ k < 40 * r + 40) → g1 k = S.1 55 k) : mi (zq_rw z (z2r (z_rw z) r g)) J (wf S 55 g1) := by
  refine mc_rw _ h (fun b hb => wf_o hb) rfl (fun i k hi hk => ?_)
  rw [wf_s]
  unfold z2r
  by_cases q : i = r
  · rw [if_pos q, q]
    exact hg k hk
  · rw [if_neg q, ho _ (by omega)]
    exact h.2.2.1 i k hi hk
/-! filling a row -/
theorem wf_id {S : sm_t} {a : Nat} : wf S a (S.1 a) = S := by
  unfold wf
  rw [show va_up S.1 a (S.1 a) = S.1 from funext fun b => by
    by_cases q : b = a
    · rw [q, sm_up_s]
    · rw [sm_up_o _ _ q]]
theorem x_fill5 {F a n : Nat} {v : Int32} (ha : sm_sq a = some (.inl (.int, n))) (hn : n < 2147483648) : ∀ (d f j : Nat) (S : sm_t), j + d = n → d < f → ∃ g, xA_fillI_5 F f a v (nI j) (nI n) S = some (wf S a g) ∧ ∀ k, g k = if j ≤ k ∧ k < n then v else S.1 a k := by
  intro d
  induction d with
  | zero =>
    intro f j S h1 h2
    obtain ⟨f, rfl⟩ : ∃ f0, f = f0 + 1 := ⟨f - 1, by omega⟩
    refine ⟨S.1 a, ?_, fun k => by rw [if_neg (by omega)]⟩
    unfold xA_fillI_5
    rw [if_pos (nI_le (by omega) (by omega))]
    rw [wf_id]
  | succ d ih =>
    intro f j S h1 h2
    obtain ⟨f, rfl⟩ : ∃ f0, f = f0 + 1 := ⟨f - 1, by omega⟩
    obtain ⟨g, e, hg⟩ := ih f (j + 1) (sm_wI S a j v) (by omega) (by omega)
    refine ⟨g, ?_, fun k => ?_⟩
    · unfold xA_fillI_5
      rw [if_neg (nI_ge (by omega) (by omega)), tt_an ha, tt_wr (by omega) (by omega), nI_1, e, wI_f, wf_wf]
    · rw [hg k, tt_1s]
      by_cases q : k = j
      · rw [if_neg (by omega), if_pos q, if_pos (by omega)]
      · rw [if_neg q]
        by_cases q1 : j ≤ k ∧ k < n
        · rw [if_pos q1, if_pos (by omega)]
        · rw [if_neg q1, if_neg (by omega)]
theorem x_fill {F a n : Nat} {v : Int32} {S : sm_t} (ha : sm_sq a = some (.inl (.int, n))) (hn : n < F) (hF : F < 2147483648) : ∃ g, xA_fillI F a v S = some (wf S a g) ∧ ∀ k, g k = if k < n then v else S.1 a k := by
  obtain ⟨g, e, hg⟩ := x_fill5 (F := F) (v := v) ha (by omega) n F 0 S (by omega) (by omega)
  refine ⟨g, ?_, fun k => by rw [hg k]; simp only [Nat.zero_le, true_and]⟩
  unfold xA_fillI
  rw [tt_an ha, tt_n]
  exact e
theorem tt_neg9 : (-9 : Int32).toInt = -9 := rfl
theorem tt_neg1 : (-1 : Int32).toInt = -1 := rfl
theorem tt_neg3 : (-3 : Int32).toInt = -3 := rfl
theorem z_new {z : zz} {r n : Nat} (hz : zw z) (hn : n ≤ 40) : zw (zq_rs z (z1r (z_rs z) r (some n))) := zw_rs hz (fun k hk => by cases hk; exact hn)
def zq_row (z : zz) (r n : Nat) (g : Nat → Int32) : zz := zq_rw (zq_rs z (z1r (z_rs z) r (some n))) (z2r (z_rw z) r g)
theorem zw_row {z : zz} {r n : Nat} {g : Nat → Int32} (hz : zw z) (hn : n ≤ 40) : zw (zq_row z r n g) := zw_rw (z_new hz hn)
theorem x_renew {F r n : Nat} {z : zz} {J S : sm_t} (hF : 1000 < F ∧ F < 2147483648) (hz : zw z) (h : xi z J S) (hr : r < 6) (hn : n ≤ 40) : ∃ S1, x7_renew F (nI r) (nI n) S = some S1 ∧ xi (zq_row z r n (fun _ => 0)) J S1 := by
  obtain ⟨g, e, hg⟩ := x_fill (F := F) (v := 0) (S := sm_wI S 11 r (nI n)) (tt_sq_row r hr) (by omega) (by omega)
  refine ⟨wf (sm_wI S 11 r (nI n)) (5 + r) g, ?_, ?_⟩
  · unfold x7_renew
    rw [tt_wr (by omega) (by omega), tt_rd (by omega) (by omega), e, tt_cV]
  · have h1 : xi (zq_rs z (z1r (z_rs z) r (some n))) J (sm_wI S 11 r (nI n)) := xi_rs hz h hr
    refine xc_rw _ (z_new hz hn) h1 (fun b hb => wf_o (by omega)) rfl (fun i k hi hk => ?_)
    unfold z2r
    by_cases q : i = r
    · rw [if_pos q, q, wf_s, hg, if_pos (by omega)]
    · rw [if_neg q, wf_o (by omega)]
      exact h1.2.2.1 i k hi hk
theorem m_row34 {F r : Nat} {v : Int32} (hr : r < 6) : ∀ (d f j : Nat) (S : sm_t), j + d = 40 → d < f → ∃ g, x8_row_34 F f (nI r) v (nI j) S = some (v, wf S 55 g) ∧ ∀ k, g k = if 40 * r + j ≤ k ∧ k < 40 * r + 40 then 0 else S.1 55 k := by
  intro d
  induction d with
  | zero =>
    intro f j S h1 h2
    obtain ⟨f, rfl⟩ : ∃ f0, f = f0 + 1 := ⟨f - 1, by omega⟩
    refine ⟨S.1 55, ?_, fun k => by rw [if_neg (by omega)]⟩
    unfold x8_row_34
    rw [wf_id]
    simp (disch := omega) only [tt_n, tt_cI, tt_cL, tt_cV, tt_rd, tt_wr, tt_wl, tt_le, tt_lt, tt_eq, tt_nI, if_pos, if_neg, tt_eta, ↓reduceIte, Int32.reduceToInt]
  | succ d ih =>
    intro f j S h1 h2
    obtain ⟨f, rfl⟩ : ∃ f0, f = f0 + 1 := ⟨f - 1, by omega⟩
    obtain ⟨g, e, hg⟩ := ih f (j + 1) (sm_wI S 55 (40 * r + j) 0) (by omega) (by omega)
    refine ⟨g, ?_, fun k => ?_⟩
    · unfold x8_row_34
      simp (disch := omega) only [tt_n, tt_cI, tt_cL, tt_cV, tt_rd, tt_wr, tt_wl, tt_le, tt_lt, tt_eq, tt_nI, if_pos, if_neg, tt_eta, ↓reduceIte, Int32.reduceToInt, nI_add, pk_mul, tk_m1, tk_n1, tk_a1, tk_b1, tk_m2, tk_n2, tk_a2, tk_b2, tk_m3, tk_n3, tk_a3, tk_b3, tk_m4, tk_n4, tk_a4, tk_b4, tk_m5, tk_n5, tk_a5, tk_b5, tk_m7, tk_n7, tk_a7, tk_b7, tk_m8, tk_n8, tk_a8, tk_b8, tk_m10, tk_n10, tk_a10, tk_b10, tk_m12, tk_n12, tk_a12, tk_b12, tk_m16, tk_n16, tk_a16, tk_b16, tk_m32, tk_n32, tk_a32, tk_b32, tk_m40, tk_n40, tk_a40, tk_b40, tk_m48, tk_n48, tk_a48, tk_b48, tk_m80, tk_n80, tk_a80, tk_b80, tk_m100, tk_n100, tk_a100, tk_b100, tk_m120, tk_n120, tk_a120, tk_b120, tk_m1000, tk_n1000, tk_a1000, tk_b1000]
      rw [e, wI_f, wf_wf]
    · rw [hg k, tt_1s]
      by_cases q : k = 40 * r + j
      · rw [if_neg (by omega), if_pos q, if_pos (by omega)]
      · rw [if_neg q]
        by_cases q1 : 40 * r + j ≤ k ∧ k < 40 * r + 40
        · rw [if_pos q1, if_pos (by omega)]
        · rw [if_neg q1, if_neg (by omega)]
theorem m_row {F r n : Nat} {z : zz} {J S : sm_t} (hF : 1000 < F) (h : mi z J S) (hr : r < 6) (hn : n ≤ 40) : ∃ S1, x8_row F (nI r) (nI n) S = some (nI n, S1) ∧ mi (zq_row z r n (fun _ => 0)) J S1 := by
  obtain ⟨g, e, hg⟩ := m_row34 (F := F) (v := nI n) hr 40 F 0 (sm_wI S 54 r (nI n)) (by omega) (by omega)
  refine ⟨wf (sm_wI S 54 r (nI n)) 55 g, ?_, ?_⟩
  · unfold x8_row
    simp (disch := omega) only [tt_n, tt_cI, tt_cL, tt_cV, tt_rd, tt_wr, tt_wl, tt_le, tt_lt, tt_eq, tt_nI, if_pos, if_neg, tt_eta, ↓reduceIte, Int32.reduceToInt, m_row1 hr]
    exact e
  · have h1 : mi (zq_rs z (z1r (z_rs z) r (some n))) J (sm_wI S 54 r (nI n)) := mi_rs h hr
    refine mi_rw h1 hr (fun k hk => ?_) (fun k hk => ?_)
    · rw [hg, if_pos (by omega)]
    · rw [hg, if_neg (by omega)]
theorem q_row {z : zz} {J K S T : sm_t} (hz : zw z) (hx : xi z J S) (hm : mi z K T) {F : Nat} (hF : 1000 < F ∧ F < 2147483648) (r n : Int32) : bt J K (x7_row F r n S) (x8_row F r n T) := by
  rcases tt_below r 6 (by omega) with ⟨r, hr, rfl⟩ | h
  · rcases tt_below n 41 (by omega) with ⟨n, hn, rfl⟩ | h
    · obtain ⟨S1, e1, i1⟩ := x_renew hF hz hx hr (n := n) (by omega)
      obtain ⟨T1, e2, i2⟩ := m_row hF.1 hm hr (n := n) (by omega)
      refine ⟨_, _, S1, T1, ?_, e2, zw_row hz (by omega), i1, i2⟩
      unfold x7_row
      simp (disch := omega) only [tt_n, tt_cI, tt_cL, tt_cV, tt_rd, tt_wr, tt_wl, tt_le, tt_lt, tt_eq, tt_nI, if_pos, if_neg, tt_eta, ↓reduceIte, Int32.reduceToInt, x_row1 hr, e1]
    · unfold x7_row x8_row
      by_cases h0 : n.toInt < 0
      · simp (disch := omega) only [tt_n, tt_cI, tt_cL, tt_cV, tt_rd, tt_wr, tt_wl, tt_le, tt_lt, tt_eq, tt_nI, if_pos, if_neg, tt_eta, ↓reduceIte, Int32.reduceToInt, x_row1 hr, m_row1 hr, x_f5, m_f5]
        exact bt_fd hz hx hm (by omega)
      · simp (disch := omega) only [tt_n, tt_cI, tt_cL, tt_cV, tt_rd, tt_wr, tt_wl, tt_le, tt_lt, tt_eq, tt_nI, if_pos, if_neg, tt_eta, ↓reduceIte, Int32.reduceToInt, x_row1 hr, m_row1 hr]
        exact bt_same hz hx hm _
  · unfold x7_row x8_row
    simp (disch := omega) only [tt_n, tt_cI, tt_cL, tt_cV, tt_rd, tt_wr, tt_wl, tt_le, tt_lt, tt_eq, tt_nI, if_pos, if_neg, tt_eta, ↓reduceIte, Int32.reduceToInt, x_row0 h, m_row0 h]
    exact bt_same hz hx hm _
