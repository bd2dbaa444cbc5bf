/-! ===== ends ===== -/
def zs (g : Nat → Nat) : Nat → Nat
  | 0 => 0
  | n + 1 => zs g n + g n
theorem zs_le {g : Nat → Nat} {b : Nat} : ∀ n, (∀ k, k < n → g k ≤ b) → zs g n ≤ b * n := by
  intro n
  induction n with
  | zero => exact fun _ => Nat.le_refl 0
  | succ n ih =>
    intro h
    have h1 := ih (fun k hk => h k (by omega))
    have h2 := h n (by omega)
    rw [Nat.mul_succ]
    exact Nat.add_le_add h1 h2
theorem b_en1 {z : zz} {J K S T : sm_t} (hz : zw z) (hx : xi z J S) (hm : mi z K T) {F r : Nat} (hr : r < 6) (hs : z_rs z r = some (z_ho z + 1)) : ∀ (d f k : Nat), k + d = z_ho z + 1 → d < f → (∀ h, h < k → ∃ j, j < 10 ∧ z_rw z r h = nI j) → (x7_ends_53 F f (nI r) (nI (zs (fun h => (z_rw z r h).toNatClampNeg) k)) (nI k) S = x7_ends_103 F (nI r) (nI (zs (fun h => (z_rw z r h).toNatClampNeg) (z_ho z + 1))) S ∧ x8_ends_38 F f (nI r) (nI (zs (fun h => (z_rw z r h).toNatClampNeg) k)) (nI k) T = x8_ends_87 F (nI r) (nI (zs (fun h => (z_rw z r h).toNatClampNeg) (z_ho z + 1))) T ∧ ∀ h, h < z_ho z + 1 → ∃ j, j < 10 ∧ z_rw z r h = nI j) ∨ (x7_ends_53 F f (nI r) (nI (zs (fun h => (z_rw z r h).toNatClampNeg) k)) (nI k) S = some (-3, xfd S 3) ∧ x8_ends_38 F f (nI r) (nI (zs (fun h => (z_rw z r h).toNatClampNeg) k)) (nI k) T = some (-3, mfd T 3)) := by
  have e := hx.2.2.2.2.2.1.2.1
  have e3 := hm.2.1 r hr
  have hn := hz.2.2.1.2.1
  rw [hs] at e3
  change T.1 54 r = nI (z_ho z + 1) at e3
  intro d
  induction d with
  | zero =>
    intro f k h1 h2 h3
    obtain ⟨f, rfl⟩ : ∃ f0, f = f0 + 1 := ⟨f - 1, by omega⟩
    rw [x7_ends_53, x8_ends_38, tt_n, e, tt_r _ e3 hr (by omega), if_pos (nI_lt (by omega) (by omega)), if_pos (nI_le (by omega) (by omega)), show k = z_ho z + 1 by omega]
    exact Or.inl ⟨rfl, rfl, fun h q1 => h3 h (by omega)⟩
  | succ d ih =>
    intro f k h1 h2 h3
    obtain ⟨f, rfl⟩ : ∃ f0, f = f0 + 1 := ⟨f - 1, by omega⟩
    rw [x7_ends_53, x8_ends_38, tt_n, e, tt_r _ e3 hr (by omega), if_neg (nI_nlt (by omega) (by omega)), if_neg (nI_ge (by omega) (by omega)), tt_rd (by omega) (by omega), tt_an (tt_sq_row r hr), tt_r _ (hx.2.2.1 r k hr (by omega)) (by omega) (by omega), m_rowAt hm hr (by omega), tt_cI]
    rw [show (9 : Int32) = nI 9 from rfl]
    rcases tt_below (z_rw z r k) 10 (by omega) with ⟨j, hj, q⟩ | q
    · have e6 : nI (zs (fun h => (z_rw z r h).toNatClampNeg) k) + nI j = nI (zs (fun h => (z_rw z r h).toNatClampNeg) (k + 1)) := by
        rw [nI_add]
        change _ = nI (_ + (z_rw z r k).toNatClampNeg)
        rw [q, nI_clamp (by omega)]
      have e7 := hx.2.2.1 r k hr (show k < 40 by omega)
      have e8 := m_rowAt (F := F) hm hr (show k < 40 by omega)
      rw [q] at e7 e8 ⊢
      rw [x_wi1 (by omega) (by omega), m_in1 (by omega) (by omega), tt_cI, tt_cI, if_neg (by decide), if_neg (by decide), tt_rd (by omega) (by omega), tt_an (tt_sq_row r hr), tt_r _ e7 (by omega) (by omega), tt_n, e8, tt_cI, tt_n, e6, nI_1]
      exact ih f (k + 1) (by omega) (by omega) (fun h q1 => by
        by_cases q3 : h = k
        · exact ⟨j, hj, q3 ▸ q⟩
        · exact h3 h (by omega))
    · rw [x_wiN (by omega) (by omega), m_inN (by omega) (by omega), tt_cI, tt_cI, if_pos rfl, if_pos rfl, x_f3, m_f3]
      exact Or.inr ⟨rfl, rfl⟩
theorem m_en100 {F r n : Nat} {w : Nat → Int32} {v : Int32} (hr : r < 6) (hn : n ≤ 7) : ∀ (d f k : Nat) (S : sm_t), S.1 54 r = nI n → (∀ k, k < 40 → S.1 55 (40 * r + k) = w k) → k + d = n → d < f → ∃ g, x8_ends_100 F f (nI r) v (nI k) S = some (v, wf S 59 g) ∧ ∀ m, g m = if 8 + k ≤ m ∧ m < 8 + n then w (m - 8) else S.1 59 m := by
  intro d
  induction d with
  | zero =>
    intro f k S hq hw h1 h2
    obtain ⟨f, rfl⟩ : ∃ f0, f = f0 + 1 := ⟨f - 1, by omega⟩
    refine ⟨S.1 59, ?_, fun k => by rw [if_neg (by omega)]⟩
    rw [x8_ends_100, wf_id, tt_r _ hq hr (by omega), if_pos (nI_le (by omega) (by omega))]
  | succ d ih =>
    intro f k S hq hw h1 h2
    obtain ⟨f, rfl⟩ : ∃ f0, f = f0 + 1 := ⟨f - 1, by omega⟩
    obtain ⟨g, e, hg⟩ := ih f (k + 1) (sm_wI S 59 (8 + k) (w k)) (by rw [tt_1 (by omega)]; exact hq) (fun m hm => by rw [tt_1 (by omega)]; exact hw m hm) (by omega) (by omega)
    refine ⟨g, ?_, fun m => ?_⟩
    · rw [wI_f, wf_wf] at e
      rw [← e, ← wI_f, x8_ends_100]
      have e5 : x8_rowAt F (nI r) (nI k) S = some (w k, S) := by
        unfold x8_rowAt
        simp (disch := omega) only [tt_n, tt_cI, tt_cL, tt_cV, tt_rd, tt_wr, tt_wl, tt_le, tt_lt, tt_eq, tt_nI, if_pos, if_neg, tt_eta, ↓reduceIte, Int32.reduceToInt, tk_m40, nI_add]
        rw [hw k (by omega)]
      rw [tt_r _ hq hr (by omega), if_neg (nI_ge (by omega) (by omega)), e5, tt_cI, tk_a8, tt_wr (by omega) (by omega), nI_1]
    · rw [hg m, tt_1s]
      by_cases q : m = 8 + k
      · subst q
        rw [if_neg (by omega), if_pos rfl]
        refine Eq.trans ?_ (if_pos (by omega)).symm
        rw [show 8 + k - 8 = k by omega]
      · rw [if_neg q]
        by_cases q1 : 8 + k ≤ m ∧ m < 8 + n
        · rw [if_pos q1, if_pos (by omega)]
        · rw [if_neg q1, if_neg (by omega)]
theorem q_ends {z : zz} {J K S T : sm_t} (hz : zw z) (hx : xi z J S) (hm : mi z K T) {F : Nat} (hF : 1000 < F) (r : Int32) : bt J K (x7_ends F r S) (x8_ends F r T) := by
  have e0 := hx.2.2.2.2.2.1.2.1
  have e4 := hm.2.2.2.2.2.1.2.1
  have hh := hz.2.2.1.2.1
  have e5 : x8_hours F T = some (nI (z_ho z), T) := by
    unfold x8_hours
    rw [tr_1 _ (by omega) (by omega), e4]
  rcases tt_below r 6 (by omega) with ⟨r, hr, rfl⟩ | h
  · have e := hx.2.1 r hr
    have e3 := hm.2.1 r hr
    cases hs : z_rs z r with
    | none =>
      rw [hs] at e
      change S.1 11 r = -1 at e
      unfold x7_ends x8_ends
      simp (disch := first | omega | (simp (disch := omega) only [tt_le, tt_lt, tt_eq, tt_nI, Int32.reduceToInt, tt_neg9, tt_neg1, tt_neg3] <;> omega) | fail) only [↓tt_n, ↓tt_cI, ↓tt_cL, ↓tt_cV, ↓tt_rd, ↓tt_wr, ↓tt_wl, ↓if_pos, ↓if_neg, ↓tt_eta, ↓tt_e _ (x_row1 hr), ↓tt_r _ e, ↓tt_e _ (m_ask1 hm hr hs), x_f1]
      exact bt_fd hz hx hm (by omega)
    | some n =>
      have hn := hz.1 r n hs
      rw [hs] at e e3
      change S.1 11 r = nI n at e
      change T.1 54 r = nI n at e3
      unfold x7_ends x8_ends
      rw [tt_e _ (x_row1 hr), if_neg (by decide), tt_r _ e hr (by omega), if_neg (by rw [tt_eq, tt_nI (by omega), tt_neg1]; omega), tt_r _ e hr (by omega), tt_n, e0, tt_e _ (m_ask2 hz hm hr hs), if_pos (show (0 : Int32) ≤ 0 by decide), tt_r _ e3 hr (by omega), e5, tt_cI, nI_1]
      by_cases q : n = z_ho z + 1
      · rw [if_pos (by rw [q]), if_pos (by rw [q])]
        subst q
        have b := b_en1 (F := F) hz hx hm hr hs (z_ho z + 1) F 0 (by omega) (by omega) (fun h q => by omega)
        change (x7_ends_53 F F (nI r) 0 0 S = _ ∧ x8_ends_38 F F (nI r) 0 0 T = _ ∧ _) ∨ (x7_ends_53 F F (nI r) 0 0 S = _ ∧ x8_ends_38 F F (nI r) 0 0 T = _) at b
        rcases b with ⟨b1, b2, b3⟩ | ⟨b1, b2⟩
        · rw [b1, b2]
          have hsum : zs (fun h => (z_rw z r h).toNatClampNeg) (z_ho z + 1) ≤ 9 * (z_ho z + 1) := zs_le _ (fun k hk => by
            have := (zn_1 (b3 k hk) (by omega)).2
            omega)
          unfold x7_ends_103 x8_ends_87
          by_cases q0 : zs (fun h => (z_rw z r h).toNatClampNeg) (z_ho z + 1) = 0
          · rw [q0, if_pos (by decide), if_pos (by decide), x_f4, m_f4]
            exact bt_fd hz hx hm (by omega)
          · rw [if_neg (nI_ne0 (by omega) (by omega)), if_neg (nI_ne0 (by omega) (by omega)), tt_rd hr (by omega), tt_n, e0, nI_1, tt_an (tt_sq_row r hr), show (0 : Int32) = nI 0 from rfl, tt_cp (by omega) (by omega) (by omega) (by omega)]
            obtain ⟨g, f1, f2⟩ := m_en100 (F := F) (v := nI (zs (fun h => (z_rw z r h).toNatClampNeg) (z_ho z + 1))) (w := z_rw z r) hr (show z_ho z + 1 ≤ 7 by omega) (z_ho z + 1) F 0 T e3 (fun k hk => hm.2.2.1 r k hr hk) (by omega) (by omega)
            rw [f1]
            have hx5 := hx.2.2.2.2.2.1
            have hm5 := hm.2.2.2.2.2.1
            refine ⟨_, zq_fl z (z_ce z, z_ho z, z_co z, fun h => (z_rw z r h).toNatClampNeg), _, _, rfl, rfl, zw_fl hz ⟨hz.2.2.1.1, hh, hz.2.2.1.2.2.1, fun k hk => ?_⟩, xc_fl _ hz hx (fun b hb => wf_o (by omega)) rfl ⟨?_, ?_, fun k hk => ?_, fun k hk => ?_⟩, mc_fl _ hm (fun b hb => wf_o (by omega)) rfl ⟨?_, ?_, fun k hk => ?_, fun k hk => ?_⟩⟩
            · have := (zn_1 (b3 k (by omega)) (by omega)).2
              omega
            · rw [wf_o (by omega)]
              exact hx5.1
            · rw [wf_o (by omega)]
              exact hx5.2.1
            · rw [wf_o (by omega)]
              exact hx5.2.2.1 k hk
            · have hk : k ≤ z_ho z := hk
              rw [wf_s, pk_cpy_in (by omega) (by omega), show 0 + (k - 0) = k by omega, hx.2.2.1 r k hr (by omega)]
              exact (zn_1 (b3 k (by omega)) (by omega)).1.symm
            · rw [wf_s, f2, if_neg (by omega)]
              exact hm5.1
            · rw [wf_s, f2, if_neg (by omega)]
              exact hm5.2.1
            · rw [wf_s, f2, if_neg (by omega)]
              exact hm5.2.2.1 k hk
            · rw [wf_s, f2]
              by_cases q1 : k ≤ z_ho z
              · rw [if_pos (by omega), show 8 + k - 8 = k by omega]
                refine Eq.trans ?_ (if_pos q1).symm
                exact (zn_1 (b3 k (by omega)) (by omega)).1.symm
              · rw [if_neg (by omega), hm5.2.2.2 k hk]
                rw [if_neg q1]
                exact (if_neg q1).symm
        · rw [b1, b2]
          exact bt_fd hz hx hm (by omega)
      · have q1 : ¬ nI n = nI (z_ho z + 1) := fun q2 => q ((nI_eq (by omega) (by omega)).mp q2)
        rw [if_neg q1, if_neg q1, x_f5, m_f5]
        exact bt_fd hz hx hm (by omega)
  · unfold x7_ends x8_ends
    rw [x_row0 h, m_ask0 h]
    exact bt_same hz hx hm (-1)
