/-! ===== draw ===== -/
theorem tu_1 : ∀ s, s < 8 → (nI s + (-1)) &&& 7 = nI ((s + 7) % 8) ∧ (nI s + 1) &&& 7 = nI ((s + 1) % 8) ∧ sm_ir ((nI s + (-1)) + 8) 8 = nI ((s + 7) % 8) ∧ sm_ir ((nI s + 1) + 8) 8 = nI ((s + 1) % 8) ∧ sm_ir ((nI s + 0) + 8) 8 = nI s ∧ (nI s + 4) &&& 7 = nI ((s + 4) % 8) ∧ sm_ir ((nI s + 4) + 8) 8 = nI ((s + 4) % 8) := by decide +kernel
theorem x_tuL {F s : Nat} {S : sm_t} (h : s < 8) : x1_turned F (nI s) (-1) S = some (nI ((s + 7) % 8), S) := by
  unfold x1_turned
  rw [(tu_1 s h).1]
theorem x_tuR {F s : Nat} {S : sm_t} (h : s < 8) : x1_turned F (nI s) 1 S = some (nI ((s + 1) % 8), S) := by
  unfold x1_turned
  rw [(tu_1 s h).2.1]
theorem m_tuL {F s : Nat} {S : sm_t} (h : s < 8) : x8_turned F (nI s) (-1) S = some (nI ((s + 7) % 8), S) := by
  unfold x8_turned
  rw [(tu_1 s h).2.2.1]
theorem m_tuR {F s : Nat} {S : sm_t} (h : s < 8) : x8_turned F (nI s) 1 S = some (nI ((s + 1) % 8), S) := by
  unfold x8_turned
  rw [(tu_1 s h).2.2.2.1]
theorem m_tu0 {F s : Nat} {S : sm_t} (h : s < 8) : x8_turned F (nI s) 0 S = some (nI s, S) := by
  unfold x8_turned
  rw [(tu_1 s h).2.2.2.2.1]
def zdw (s n : Nat) : Nat := if n % 4 = 2 then (s + 7) % 8 else if n % 4 = 3 then (s + 1) % 8 else s
def zdr (z : zz) (seed : Nat) : Nat → Nat × Nat
  | 0 => (seed, z_ce z)
  | i + 1 => ((zdr z seed i).1 * 48271 % 2147483647, zgo (zdr z seed i).2 (zdw (z_co z i) ((zdr z seed i).1 * 48271 % 2147483647)))
theorem zdw_lt {s n : Nat} (h : s < 8) : zdw s n < 8 := by
  unfold zdw
  split
  · omega
  · split <;> omega
theorem zdr_lt {z : zz} {seed : Nat} (hz : zw z) (hs : seed < 2147483647) : ∀ i, i ≤ z_ho z → (zdr z seed i).1 < 2147483647 ∧ (zdr z seed i).2 < 120 := by
  intro i
  induction i with
  | zero => exact fun _ => ⟨hs, hz.2.2.1.1⟩
  | succ i ih =>
    intro hi
    exact ⟨Nat.mod_lt _ (by omega), zgo_lt (ih (by omega)).2 (zdw_lt (hz.2.2.1.2.2.1 i (by omega)))⟩
theorem dr_m {n : Nat} (hn : n < 2147483647) : sm_lr (lN n * 48271) 2147483647 = lN (n * 48271 % 2147483647) ∧ sm_lr (48271 * lN n) 2147483647 = lN (n * 48271 % 2147483647) := by
  have h1 : lN n * 48271 = lN (n * 48271) := lN_mul n 48271
  have h2 : (48271 : Int64) * lN n = lN (48271 * n) := lN_mul 48271 n
  rw [h1, h2, Nat.mul_comm 48271 n]
  have h3 : sm_lr (lN (n * 48271)) 2147483647 = lN (n * 48271 % 2147483647) := pk_lRem (b := 2147483647) (by omega) (by omega) (by omega)
  exact ⟨h3, h3⟩
theorem dr_4 {n : Nat} (hn : n < 2147483647) : sm_lr (lN n) 4 = lN (n % 4) := pk_lRem (b := 4) (by omega) (by omega) (by omega)
theorem dr_v : ∀ m, m < 4 → ((lN m).toInt32 = 2 ↔ m = 2) ∧ ((lN m).toInt32 = 3 ↔ m = 3) ∧ ((2 : Int64) ≤ lN m ↔ 2 ≤ m) ∧ (lN m = 2 ↔ m = 2) := by decide +kernel
theorem x_dr60 {F r seed : Nat} {z : zz} {S : sm_t} (hF : 1000 < F) (hz : zw z) (h : xk z S.1) (hr : r < 6) (hs : seed < 2147483647) : ∃ g, x7_draw_60 F F (nI r) (lN seed) (nI (z_ce z)) 0 S = some ((lN (zdr z seed (z_ho z)).1).toInt32, wf S (5 + r) g) ∧ ∀ k, k < 40 → g k = if 1 ≤ k ∧ k ≤ z_ho z then nI (zdr z seed k).2 else S.1 (5 + r) k := by
  have hh := hz.2.2.1.2.1
  refine lp0 (fun f (a : Int64 × Int32 × sm_t) i => x7_draw_60 F f (nI r) a.1 a.2.1 i a.2.2) (z_ho z) (fun i a => a.1 = lN (zdr z seed i).1 ∧ a.2.1 = nI (zdr z seed i).2 ∧ ∃ g, a.2.2 = wf S (5 + r) g ∧ ∀ k, k < 40 → g k = if 1 ≤ k ∧ k ≤ i then nI (zdr z seed k).2 else S.1 (5 + r) k) (fun o => ∃ g, o = some ((lN (zdr z seed (z_ho z)).1).toInt32, wf S (5 + r) g) ∧ ∀ k, k < 40 → g k = if 1 ≤ k ∧ k ≤ z_ho z then nI (zdr z seed k).2 else S.1 (5 + r) k) (a := (lN seed, nI (z_ce z), S)) (by omega) ⟨rfl, rfl, S.1 (5 + r), wf_id.symm, fun k hk => by rw [if_neg (by omega)]⟩ (fun f a ha => ?_) (fun f i a hi ha => ?_)
  · obtain ⟨l3, l5, S1⟩ := a
    obtain ⟨h1, h2, g, h3, hg⟩ := ha
    change l3 = _ at h1
    change S1 = _ at h3
    subst h1 h3
    refine ⟨g, ?_, hg⟩
    change x7_draw_60 F (f + 1) (nI r) _ l5 (nI (z_ho z)) (wf S (5 + r) g) = _
    rw [x7_draw_60, tt_n, wf_o (by omega), h.1.2.1, if_pos (nI_le (by omega) (by omega))]
  · obtain ⟨l3, l5, S1⟩ := a
    obtain ⟨h1, h2, g, h3, hg⟩ := ha
    change l3 = _ at h1
    change l5 = _ at h2
    change S1 = _ at h3
    subst h1 h2 h3
    have hb := zdr_lt hz hs i (by omega)
    have hb1 := zdr_lt hz hs (i + 1) (by omega)
    have hco := hz.2.2.1.2.2.1 i hi
    have hv := dr_v ((zdr z seed (i + 1)).1 % 4) (by omega)
    have e0 : ∀ A : sm_t, x7_draw_133 F (x7_draw_60 F f) (nI r) (lN (zdr z seed (i + 1)).1) (nI (zdr z seed i).2) (nI i) (nI (zdw (z_co z i) (zdr z seed (i + 1)).1)) A = x7_draw_60 F f (nI r) (lN (zdr z seed (i + 1)).1) (nI (zdr z seed (i + 1)).2) (nI (i + 1)) (sm_wI A (5 + r) (i + 1) (nI (zdr z seed (i + 1)).2)) := by
      intro A
      unfold x7_draw_133
      rw [x_gone hb.2 (zdw_lt hco), tt_cI, tt_rd hr (by omega), tt_an (tt_sq_row r hr), nI_1 i, tt_wr (by omega) (by omega)]
      rfl
    refine Or.inr ⟨(lN (zdr z seed (i + 1)).1, nI (zdr z seed (i + 1)).2, wf S (5 + r) (upd g (i + 1) (nI (zdr z seed (i + 1)).2))), ?_, rfl, rfl, _, rfl, fun k hk => ?_⟩
    · change x7_draw_60 F (f + 1) (nI r) (lN (zdr z seed i).1) (nI (zdr z seed i).2) (nI i) (wf S (5 + r) g) = x7_draw_60 F f (nI r) (lN (zdr z seed (i + 1)).1) (nI (zdr z seed (i + 1)).2) (nI (i + 1)) _
      rw [x7_draw_60, tt_n, wf_o (by omega), h.1.2.1, if_neg (nI_ge hi (by omega)), tt_n, (dr_m hb.1).1]
      change sm_rd _ 6 (nI i) (fun v3 => sm_n ((sm_lr (lN (zdr z seed (i + 1)).1) 4).toInt32) _) = _
      rw [tt_r _ (show (wf S (5 + r) g).1 20 i = nI (z_co z i) by rw [wf_o (by omega)]; exact h.1.2.2.1 i hi) (by omega) (by omega), tt_n, dr_4 hb1.1]
      have e1 := e0 (wf S (5 + r) g)
      rw [wI_f, wf_wf, wf_s] at e1
      rw [← e1]
      unfold zdw
      by_cases q2 : (zdr z seed (i + 1)).1 % 4 = 2
      · rw [if_pos (hv.1.mpr q2), if_pos q2, x_tuL hco, tt_cI]
        rfl
      · rw [if_neg (fun p => q2 (hv.1.mp p)), if_neg q2]
        by_cases q3 : (zdr z seed (i + 1)).1 % 4 = 3
        · rw [if_pos (hv.2.1.mpr q3), if_pos q3, x_tuR hco, tt_cI]
          rfl
        · rw [if_neg (fun p => q3 (hv.2.1.mp p)), if_neg q3]
          rfl
    · by_cases q : k = i + 1
      · rw [q, pk_us, if_pos (by omega)]
      · rw [pk_un q, hg k hk]
        by_cases q1 : 1 ≤ k ∧ k ≤ i
        · rw [if_pos q1, if_pos (by omega)]
        · rw [if_neg q1, if_neg (by omega)]
theorem m_dr57 {F r seed : Nat} {z : zz} {S : sm_t} (hF : 1000 < F) (hz : zw z) (h : mk z S.1) (hr : r < 6) (hs : seed < 2147483647) : ∃ g, x8_draw_57 F F (nI r) (lN seed) (nI (z_ce z)) 0 S = some ((lN (zdr z seed (z_ho z)).1).toInt32, wf S 55 g) ∧ (∀ k, k < 40 → g (40 * r + k) = if 1 ≤ k ∧ k ≤ z_ho z then nI (zdr z seed k).2 else S.1 55 (40 * r + k)) ∧ ∀ k, ¬ (40 * r ≤ k ∧ k < 40 * r + 40) → g k = S.1 55 k := by
  have hh := hz.2.2.1.2.1
  refine lp0 (fun f (a : Int64 × Int32 × sm_t) i => x8_draw_57 F f (nI r) a.1 a.2.1 i a.2.2) (z_ho z) (fun i a => a.1 = lN (zdr z seed i).1 ∧ a.2.1 = nI (zdr z seed i).2 ∧ ∃ g, a.2.2 = wf S 55 g ∧ (∀ k, k < 40 → g (40 * r + k) = if 1 ≤ k ∧ k ≤ i then nI (zdr z seed k).2 else S.1 55 (40 * r + k)) ∧ ∀ k, ¬ (40 * r ≤ k ∧ k < 40 * r + 40) → g k = S.1 55 k) (fun o => ∃ g, o = some ((lN (zdr z seed (z_ho z)).1).toInt32, wf S 55 g) ∧ (∀ k, k < 40 → g (40 * r + k) = if 1 ≤ k ∧ k ≤ z_ho z then nI (zdr z seed k).2 else S.1 55 (40 * r + k)) ∧ ∀ k, ¬ (40 * r ≤ k ∧ k < 40 * r + 40) → g k = S.1 55 k) (a := (lN seed, nI (z_ce z), S)) (by omega) ⟨rfl, rfl, S.1 55, wf_id.symm, fun k hk => by rw [if_neg (by omega)], fun k hk => rfl⟩ (fun f a ha => ?_) (fun f i a hi ha => ?_)
  · obtain ⟨l3, l5, S1⟩ := a
    obtain ⟨h1, h2, g, h3, hg⟩ := ha
    change l3 = _ at h1
    change S1 = _ at h3
    subst h1 h3
    have h' : mk z (wf S 55 g).1 := mk_cg h (fun b hb => wf_o (by omega)) (by rw [wf_o (by omega)])
    refine ⟨g, ?_, hg⟩
    change x8_draw_57 F (f + 1) (nI r) _ l5 (nI (z_ho z)) (wf S 55 g) = _
    rw [x8_draw_57, k_hours h', tt_cI, if_pos (nI_le (by omega) (by omega))]
  · obtain ⟨l3, l5, S1⟩ := a
    obtain ⟨h1, h2, g, h3, hg, hg2⟩ := ha
    change l3 = _ at h1
    change l5 = _ at h2
    change S1 = _ at h3
    subst h1 h2 h3
    have h' : mk z (wf S 55 g).1 := mk_cg h (fun b hb => wf_o (by omega)) (by rw [wf_o (by omega)])
    have hb := zdr_lt hz hs i (by omega)
    have hb1 := zdr_lt hz hs (i + 1) (by omega)
    have hco := hz.2.2.1.2.2.1 i hi
    have hv := dr_v ((zdr z seed (i + 1)).1 % 4) (by omega)
    have e0 : ∀ t : Int32, x8_turned F (nI (z_co z i)) t (wf S 55 g) = some (nI (zdw (z_co z i) (zdr z seed (i + 1)).1), wf S 55 g) → x8_draw_109 F (x8_draw_57 F f) (nI r) (lN (zdr z seed (i + 1)).1) (nI (zdr z seed i).2) (nI i) t (wf S 55 g) = x8_draw_57 F f (nI r) (lN (zdr z seed (i + 1)).1) (nI (zdr z seed (i + 1)).2) (nI (i + 1)) (wf S 55 (upd g (40 * r + i + 1) (nI (zdr z seed (i + 1)).2))) := by
      intro t ht
      unfold x8_draw_109
      rw [k_courseOf hz h' hi, tt_cI, ht, tt_cI, m_goes hb.2 (zdw_lt hco), tt_cI, tk_m40, nI_add, nI_1, nI_1 i, tt_wr (by omega) (by omega), wI_f, wf_wf, wf_s]
      rfl
    refine Or.inr ⟨(lN (zdr z seed (i + 1)).1, nI (zdr z seed (i + 1)).2, wf S 55 (upd g (40 * r + i + 1) (nI (zdr z seed (i + 1)).2))), ?_, rfl, rfl, _, rfl, fun k hk => ?_, fun k hk => ?_⟩
    · change x8_draw_57 F (f + 1) (nI r) (lN (zdr z seed i).1) (nI (zdr z seed i).2) (nI i) (wf S 55 g) = x8_draw_57 F f (nI r) (lN (zdr z seed (i + 1)).1) (nI (zdr z seed (i + 1)).2) (nI (i + 1)) _
      rw [x8_draw_57, k_hours h', tt_cI, if_neg (nI_ge hi (by omega)), tt_n, (dr_m hb.1).2]
      change (if 2 ≤ sm_lr (lN (zdr z seed (i + 1)).1) 4 then (if sm_lr (lN (zdr z seed (i + 1)).1) 4 = 2 then x8_draw_109 F (x8_draw_57 F f) (nI r) (lN (zdr z seed (i + 1)).1) (nI (zdr z seed i).2) (nI i) (-1) (wf S 55 g) else x8_draw_109 F (x8_draw_57 F f) (nI r) (lN (zdr z seed (i + 1)).1) (nI (zdr z seed i).2) (nI i) 1 (wf S 55 g)) else x8_draw_109 F (x8_draw_57 F f) (nI r) (lN (zdr z seed (i + 1)).1) (nI (zdr z seed i).2) (nI i) 0 (wf S 55 g)) = _
      rw [dr_4 hb1.1]
      by_cases q2 : (zdr z seed (i + 1)).1 % 4 = 2
      · rw [if_pos (hv.2.2.1.mpr (by omega)), if_pos (hv.2.2.2.mpr q2)]
        exact e0 _ (by rw [m_tuL hco]; unfold zdw; rw [if_pos q2])
      · by_cases q3 : (zdr z seed (i + 1)).1 % 4 = 3
        · rw [if_pos (hv.2.2.1.mpr (by omega)), if_neg (fun p => q2 (hv.2.2.2.mp p))]
          exact e0 _ (by rw [m_tuR hco]; unfold zdw; rw [if_neg q2, if_pos q3])
        · rw [if_neg (fun p => by have := hv.2.2.1.mp p; omega)]
          exact e0 _ (by rw [m_tu0 hco]; unfold zdw; rw [if_neg q2, if_neg q3])
    · by_cases q : k = i + 1
      · rw [q, show 40 * r + (i + 1) = 40 * r + i + 1 by omega, pk_us, if_pos (by omega)]
      · rw [pk_un (by omega), hg k hk]
        by_cases q1 : 1 ≤ k ∧ k ≤ i
        · rw [if_pos q1, if_pos (by omega)]
        · rw [if_neg q1, if_neg (by omega)]
    · rw [pk_un (by omega), hg2 k hk]
def zdg (z : zz) (seed k : Nat) : Int32 := if 1 ≤ k ∧ k ≤ z_ho z then nI (zdr z seed k).2 else if k = 0 then nI (z_ce z) else 0
theorem q_draw {z : zz} {J K S T : sm_t} (hz : zw z) (hx : xi z J S) (hm : mi z K T) {F : Nat} (hF : 1000 < F ∧ F < 2147483648) (s r : Int32) : bt J K (x7_draw F s r S) (x8_draw F s r T) := by
  have hh := hz.2.2.1.2.1
  unfold x7_draw x8_draw
  rw [show (1 : Int32) = nI 1 from rfl, show (2147483646 : Int32) = nI 2147483646 from rfl]
  rcases tt_from s 1 2147483646 (by omega) with ⟨s, h1, h2, rfl⟩ | h
  · rw [m_inAB h1 h2 (by omega), tt_cI, if_neg (nI_nlt h1 (by omega)), if_neg (nI_nlt h2 (by omega)), if_neg (show ¬ (1 : Int32) = 0 from n10)]
    rcases tt_below r 6 (by omega) with ⟨r, hr, rfl⟩ | h
    · obtain ⟨S1, e1, i1⟩ := x_renew hF hz hx hr (n := z_ho z + 1) (by omega)
      obtain ⟨T1, e2, i2⟩ := m_row hF.1 hm hr (n := z_ho z + 1) (by omega)
      have hz1 := zw_row (r := r) (n := z_ho z + 1) (g := fun _ => 0) hz (by omega)
      have hk1 : xk (zq_row z r (z_ho z + 1) (fun _ => 0)) (sm_wI S1 (5 + r) 0 (nI (z_ce z))).1 := xk_cg hz1 (xk_of i1) (fun b hb => tt_1 (by omega))
      have hk2 : mk (zq_row z r (z_ho z + 1) (fun _ => 0)) (sm_wI T1 55 (40 * r) (nI (z_ce z))).1 := mk_cg (mk_of i2) (fun b hb => tt_1 (by omega)) (by rw [tt_1 (by omega)])
      obtain ⟨g, e3, hg⟩ := x_dr60 (seed := s) hF.1 hz1 hk1 hr (by omega)
      obtain ⟨g2, e4, hg2, hg3⟩ := m_dr57 (seed := s) hF.1 hz1 hk2 hr (by omega)
      have c1 : S1.1 19 0 = nI (z_ce z) := i1.2.2.2.2.2.1.1
      have c2 : T1.1 59 0 = nI (z_ce z) := i2.2.2.2.2.2.1.1
      rw [x_row1 hr, m_row1 hr, tt_cI, tt_cI, if_neg n10, if_neg n10, tt_n, hx.2.2.2.2.2.1.2.1, m_hours hm, tt_cI, nI_add, e1, e2, tt_cV, tt_cI, tt_n, tt_n, tt_n, c1, tt_rd hr (by omega), tt_an (tt_sq_row r hr), tw_0 _ (by omega) (by omega), tr_0 _ (by omega) (by omega), c2, tk_m40, tt_wr (by omega) (by omega), nI_l (by omega)]
      rw [show x7_draw_60 F F (nI r) (lN s) (nI (z_ce z)) 0 (sm_wI S1 (5 + r) 0 (nI (z_ce z))) = _ from e3, show x8_draw_57 F F (nI r) (lN s) (nI (z_ce z)) 0 (sm_wI T1 55 (40 * r) (nI (z_ce z))) = _ from e4]
      refine ⟨_, _, _, _, rfl, rfl, zw_rw hz1, xi_rwg (g := zdg (zq_row z r (z_ho z + 1) (fun _ => 0)) s) hz1 i1 hr (fun b hb => ?_) rfl (fun k hk => ?_), mi_rwg i2 hr (fun b hb => ?_) rfl (fun k hk => ?_) (fun k hk => ?_)⟩
      · rw [wf_o hb, tt_1 hb]
      · rw [wf_s, hg k hk, tt_1s]
        unfold zdg
        rw [show S1.1 (5 + r) k = 0 from (i1.2.2.1 r k hr hk).trans (row_0 k)]
        rfl
      · rw [wf_o hb, tt_1 hb]
      · rw [wf_s, hg2 k hk, tt_1s]
        unfold zdg
        rw [show T1.1 55 (40 * r + k) = 0 from (i2.2.2.1 r k hr hk).trans (row_0 k)]
        by_cases q : k = 0
        · rw [if_pos (show 40 * r + k = 40 * r by omega), if_pos q]
          rfl
        · rw [if_neg (show ¬ 40 * r + k = 40 * r by omega), if_neg q]
      · rw [wf_s, hg3 k hk, tt_1s, if_neg (by omega)]
    · rw [x_row0 h, m_row0 h]
      exact bt_same hz hx hm (-1)
  · rw [m_inABN h (by omega) (by omega)]
    by_cases q : s < nI 1
    · rw [if_pos q]
      exact bt_same hz hx hm (-1)
    · rw [if_neg q, if_pos]
      · exact bt_same hz hx hm (-1)
      · rw [tt_lt, tt_nI (by omega)] at q
        rw [tt_lt, tt_nI (by omega)]
        omega
