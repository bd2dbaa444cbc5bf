/-! ===== count, image ===== -/
theorem m_co1 {F w : Nat} {z : zz} {J S : sm_t} (hF : 1000 < F) (hz : zw z) (hm : mi z J S) (hw : w < 7) : x8_countsOf F (nI w) S = x8_countsOf_79 F F (nI w) (nI (zs (fun k => zi (zq1 z w k)) 6)) 0 S := by
  have hq : ∀ j : Nat, j < 7 → (nI w = nI j ↔ w = j) := fun j hj => nI_eq (by omega) (by omega)
  have q1 : nI w = 1 ↔ w = 1 := hq 1 (by omega)
  have q5 : nI w = 5 ↔ w = 5 := hq 5 (by omega)
  have q6 : nI w = 6 ↔ w = 6 := hq 6 (by omega)
  unfold x8_countsOf
  refine lp0 (fun f (a : Int32) i => x8_countsOf_4 F f (nI w) a i S) 6 (fun i a => a = nI (zs (fun k => zi (zq1 z w k)) i)) (fun o => o = x8_countsOf_79 F F (nI w) (nI (zs (fun k => zi (zq1 z w k)) 6)) 0 S) (by omega) rfl (fun f a ha => ?_) (fun f i a hi ha => Or.inr ⟨_, ?_, rfl⟩)
  · change x8_countsOf_4 F (f + 1) (nI w) a 6 S = _
    rw [x8_countsOf_4, if_pos (by decide), ha]
  · change x8_countsOf_4 F (f + 1) (nI w) a (nI i) S = x8_countsOf_4 F f (nI w) _ (nI (i + 1)) S
    have h0 : x8_countsOf_4 F f (nI w) (nI (zs (fun k => zi (zq1 z w k)) i)) (nI i + 1) S = x8_countsOf_4 F f (nI w) (nI (zs (fun k => zi (zq1 z w k)) i + zi false)) (nI (i + 1)) S := by rw [nI_1 i]; rfl
    have h1 : x8_countsOf_4 F f (nI w) (nI (zs (fun k => zi (zq1 z w k)) i + 1)) (nI i + 1) S = x8_countsOf_4 F f (nI w) (nI (zs (fun k => zi (zq1 z w k)) i + zi true)) (nI (i + 1)) S := by rw [nI_1 i]; rfl
    rw [x8_countsOf_4, if_neg (show ¬ (6 : Int32) ≤ nI i from nI_ge (b := 6) hi (by omega)), ha, zs_s]
    unfold x8_countsOf_30 x8_countsOf_44
    simp only [tt_n, ad_0, nI_1 (zs (fun k => zi (zq1 z w k)) i)]
    by_cases w1 : w = 1
    · rw [if_pos (q1.mpr w1)]
      simp only [if_neg (show ¬ nI w = 5 from fun p => by have := q5.mp p; omega), if_neg (show ¬ nI w = 6 from fun p => by have := q6.mp p; omega)]
      by_cases i4 : i < 4
      · rw [if_neg (show ¬ (4 : Int32) ≤ nI i from nI_ge (b := 4) i4 (by omega))]
        by_cases i0 : i = 0
        · subst i0
          have e : S.1 60 0 = 0 := hm.2.2.2.2.2.2.1.1
          rw [tt_r _ e (by omega) (by omega), if_pos p00, h0, show zq1 z w 0 = false by unfold zq1; rw [if_pos w1]; rfl]
        · obtain ⟨j, rfl⟩ : ∃ j, i = j + 1 := ⟨i - 1, by omega⟩
          have e := (hm.2.2.2.2.2.2.1.2 j (by omega)).1
          rw [tt_r _ e (by omega) (by omega)]
          have e2 : zq1 z w (j + 1) = (z_st z (j + 1)).isSome := by
            unfold zq1
            rw [if_pos w1, decide_eq_true (by omega), Bool.true_and]
          rw [e2]
          cases q : (z_st z (j + 1)).isSome with
          | false => rw [if_pos (z_b1.mpr q), h0]
          | true => rw [if_neg (fun p => by have := z_b1.mp p; rw [q] at this; cases this), h1]
      · rw [if_pos (show (4 : Int32) ≤ nI i from nI_le (a := 4) (by omega) (by omega)), h0, show zq1 z w i = false by unfold zq1; rw [if_pos w1, decide_eq_false (by omega)]; rfl]
    · rw [if_neg (fun p => w1 (q1.mp p))]
      by_cases w5 : w = 5
      · have e := hm.2.1 i hi
        have hq := (z_x1 (hz.1 i) (b := 40) (by omega)).2
        have e2 : zq1 z w i = (z_rs z i).isSome := by
          unfold zq1
          rw [if_neg w1, if_pos w5]
        rw [if_pos (q5.mpr w5), tt_r _ e hi (by omega), e2]
        simp only [if_neg (show ¬ nI w = 6 from fun p => by have := q6.mp p; omega)]
        cases q : (z_rs z i).isSome with
        | false => rw [if_neg (fun p => Int32.not_lt.mpr p (hq.mpr q)), h0]
        | true => rw [if_pos (Int32.not_lt.mp (fun p => by have := hq.mp p; rw [q] at this; cases this)), h1]
      · rw [if_neg (fun p => w5 (q5.mp p))]
        by_cases w6 : w = 6
        · rw [if_pos (q6.mpr w6)]
          by_cases i4 : i < 4
          · have e := hm.2.2.2.1 i i4
            have hq := (z_x1 (hz.2.1 i) (b := 80) (by omega)).2
            have e2 : zq1 z w i = (z_ts z i).isSome := by
              unfold zq1
              rw [if_neg w1, if_neg w5, if_pos w6, decide_eq_true i4, Bool.true_and]
            rw [if_neg (show ¬ (4 : Int32) ≤ nI i from nI_ge (b := 4) i4 (by omega)), tt_r _ e i4 (by omega), e2]
            cases q : (z_ts z i).isSome with
            | false => rw [if_pos (hq.mpr q), h0]
            | true => rw [if_neg (fun p => by have := hq.mp p; rw [q] at this; cases this), h1]
          · rw [if_pos (show (4 : Int32) ≤ nI i from nI_le (a := 4) (by omega) (by omega)), h0, show zq1 z w i = false by unfold zq1; rw [if_neg w1, if_neg w5, if_pos w6, decide_eq_false i4]; rfl]
        · rw [if_neg (fun p => w6 (q6.mp p)), h0, show zq1 z w i = false by unfold zq1; rw [if_neg w1, if_neg w5, if_neg w6]]
theorem m_co2 {F w n : Nat} {z : zz} {J S : sm_t} (hF : 1000 < F) (hz : zw z) (hm : mi z J S) (hw : w < 7) : x8_countsOf_79 F F (nI w) (nI n) 0 S = some (if w = 0 then nI (z_ho z) else nI (n + zs (fun e => zi (zq2 z w e)) (z_sn z)), S) := by
  have hn := hz.2.2.2.2.1
  have hq : ∀ j : Nat, j < 7 → (nI w = nI j ↔ w = j) := fun j hj => nI_eq (by omega) (by omega)
  have q0 : nI w = 0 ↔ w = 0 := hq 0 (by omega)
  have q2 : nI w = 2 ↔ w = 2 := hq 2 (by omega)
  have q3 : nI w = 3 ↔ w = 3 := hq 3 (by omega)
  have q4 : nI w = 4 ↔ w = 4 := hq 4 (by omega)
  refine lp0 (fun f (a : Int32) i => x8_countsOf_79 F f (nI w) a i S) (z_sn z) (fun i a => a = nI (n + zs (fun e => zi (zq2 z w e)) i)) (fun o => o = some (if w = 0 then nI (z_ho z) else nI (n + zs (fun e => zi (zq2 z w e)) (z_sn z)), S)) (by omega) rfl (fun f a ha => ?_) (fun f i a hi ha => Or.inr ⟨_, ?_, rfl⟩)
  · change x8_countsOf_79 F (f + 1) (nI w) a (nI (z_sn z)) S = _
    rw [x8_countsOf_79, tt_n, hm.2.2.2.2.2.2.2.1.1, if_pos (nI_le (by omega) (by omega)), ha]
    unfold x8_countsOf_138
    by_cases w0 : w = 0
    · rw [if_pos (q0.mpr w0), if_pos w0, m_hours hm, tt_cI]
    · rw [if_neg (fun p => w0 (q0.mp p)), if_neg w0]
  · change x8_countsOf_79 F (f + 1) (nI w) a (nI i) S = x8_countsOf_79 F f (nI w) _ (nI (i + 1)) S
    have hs := sg_lt hz hi
    have h0 : x8_countsOf_79 F f (nI w) (nI (n + zs (fun e => zi (zq2 z w e)) i)) (nI i + 1) S = x8_countsOf_79 F f (nI w) (nI (n + (zs (fun e => zi (zq2 z w e)) i + zi false))) (nI (i + 1)) S := by rw [nI_1 i]; rfl
    have h1 : x8_countsOf_79 F f (nI w) (nI (n + zs (fun e => zi (zq2 z w e)) i + 1)) (nI i + 1) S = x8_countsOf_79 F f (nI w) (nI (n + (zs (fun e => zi (zq2 z w e)) i + zi true))) (nI (i + 1)) S := by rw [nI_1 i]; rfl
    have e0 : x8_tell F (nI i) 0 S = some (nI (z_sg z i 0), S) := m_tell hz hm hi (i := 0) (by omega)
    have e4 : x8_tell F (nI i) 4 S = some (nI (z_sg z i 4), S) := m_tell hz hm hi (i := 4) (by omega)
    rw [x8_countsOf_79, tt_n, hm.2.2.2.2.2.2.2.1.1, if_neg (nI_ge hi (by omega)), ha, zs_s]
    unfold x8_countsOf_110
    simp only [tt_n, ad_0, nI_1 (n + zs (fun e => zi (zq2 z w e)) i)]
    by_cases w2 : w = 2
    · rw [if_pos (q2.mpr w2), h1, show zq2 z w i = true by unfold zq2; rw [if_pos w2]]
    · rw [if_neg (fun p => w2 (q2.mp p))]
      by_cases w3 : w = 3
      · rw [if_pos (q3.mpr w3), e0, tt_cI]
        simp only [if_neg (show ¬ nI w = 4 from fun p => by have := q4.mp p; omega)]
        unfold x8_isVoice
        have e2 : zq2 z w i = decide (z_sg z i 0 = 5 ∨ z_sg z i 0 = 6) := by
          unfold zq2
          rw [if_neg w2, if_pos w3]
        rw [e2]
        by_cases q5 : z_sg z i 0 = 5
        · rw [if_pos (show nI (z_sg z i 0) = 5 by rw [q5]; rfl), tt_cI, if_neg n10, decide_eq_true (Or.inl q5), h1]
        · rw [if_neg (show ¬ nI (z_sg z i 0) = 5 from fun p => q5 ((nI_eq (b := 5) (by omega) (by omega)).mp p))]
          by_cases q6 : z_sg z i 0 = 6
          · rw [if_pos (show nI (z_sg z i 0) = 6 by rw [q6]; rfl), tt_cI, if_neg n10, decide_eq_true (Or.inr q6), h1]
          · rw [if_neg (show ¬ nI (z_sg z i 0) = 6 from fun p => q6 ((nI_eq (b := 6) (by omega) (by omega)).mp p)), tt_cI, if_pos p00, decide_eq_false (by omega), h0]
      · rw [if_neg (fun p => w3 (q3.mp p))]
        by_cases w4 : w = 4
        · have e2 : zq2 z w i = decide (z_sg z i 4 = 1) := by
            unfold zq2
            rw [if_neg w2, if_neg w3, if_pos w4]
          rw [if_pos (q4.mpr w4), e4, tt_cI, e2]
          rcases (show z_sg z i 4 = 0 ∨ z_sg z i 4 = 1 by omega) with q | q
          · rw [q, if_neg (by decide), h0]
            rfl
          · rw [q, if_pos (by decide), h1]
            rfl
        · rw [if_neg (fun p => w4 (q4.mp p)), h0, show zq2 z w i = false by unfold zq2; rw [if_neg w2, if_neg w3, if_neg w4]]
theorem m_countsOf {F w : Nat} {z : zz} {J S : sm_t} (hF : 1000 < F) (hz : zw z) (hm : mi z J S) (hw : w < 7) : x8_countsOf F (nI w) S = some (nI (zcnt z w), S) := by
  rw [m_co1 hF hz hm hw, m_co2 hF hz hm hw]
  unfold zcnt
  split <;> rfl
theorem q_count {z : zz} {J K S T : sm_t} (hz : zw z) (hx : xi z J S) (hm : mi z K T) {F : Nat} (hF : 1000 < F) (w : Int32) : bt J K (x7_count F w S) (x8_count F w T) := by
  unfold x8_count
  rcases tt_below w 7 (by omega) with ⟨w, hw, rfl⟩ | h
  · rw [show x8_in F (nI w) 0 6 T = some (1, T) from m_in1 (b := 6) (by omega) (by omega), tt_cI, if_neg n10, x_count hF hz hx hw, m_countsOf hF hz hm hw]
    exact bt_same hz hx hm _
  · rw [show x8_in F w 0 6 T = some (0, T) from m_inN (b := 6) (by omega) (by omega), tt_cI, if_pos p00]
    unfold x7_count
    rw [if_pos]
    · exact bt_same hz hx hm (-1)
    · rw [tt_lt, tt_lt]
      simp only [Int32.reduceToInt]
      omega
/-! image -/
theorem xk_cg {z : zz} {f f1 : Nat → Nat → Int32} (hz : zw z) (h : xk z f) (hb : ∀ b, (19 ≤ b ∧ b < 23 ∨ 24 ≤ b ∧ b < 36 ∨ 37 ≤ b ∧ b < 40 ∨ b = 45) → f1 b = f b) : xk z f1 := by
  have hn := hz.2.2.2.2.1
  unfold xk
  rw [hb 19 (by omega), hb 20 (by omega), hb 21 (by omega), hb 22 (by omega), hb 45 (by omega)]
  refine ⟨h.1, ⟨h.2.1.1, fun e i he hi => ?_⟩, fun k hk => ⟨(h.2.2 k hk).1, fun w hw c hc => ?_⟩⟩
  · rw [hb (24 + e) (by omega)]
    exact h.2.1.2 e i he hi
  · rw [hb (37 + k) (by omega)]
    exact (h.2.2 k hk).2 w hw c hc
theorem mk_cg {z : zz} {f f1 : Nat → Nat → Int32} (h : mk z f) (hb : ∀ b, (59 ≤ b ∧ b < 62 ∨ b = 63) → f1 b = f b) (h51 : f1 52 17 = f 52 17) : mk z f1 := by
  unfold mk
  rw [hb 59 (by omega), hb 60 (by omega), hb 61 (by omega), hb 63 (by omega), h51]
  exact h
theorem k_number {F k : Nat} {z : zz} {S : sm_t} (hz : zw z) (h : xk z S.1) (hk : k < 15) : x3_number F (nI k) S = some (zf z k, S) := by
  have h5 := h.1
  have hh := hz.2.2.1.2.1
  unfold x3_number zf
  by_cases k0 : k = 0
  · subst k0
    rw [if_pos (by decide), if_pos rfl, tt_n, h5.1]
  · rw [if_neg (nI_ne0 (by omega) (by omega)), if_neg k0]
    by_cases k1 : k = 1
    · subst k1
      rw [if_pos (by decide), if_pos rfl, tt_n, h5.2.1]
    · rw [if_neg (show ¬ nI k = 1 from fun q => k1 ((nI_eq (b := 1) (by omega) (by omega)).mp q)), if_neg k1]
      by_cases k8 : k < 8
      · rw [if_neg (show ¬ (8 : Int32) ≤ nI k from nI_ge (b := 8) k8 (by omega)), if_pos k8, tt_n, show nI k - 2 = nI (k - 2) from pk_sub (b := 2) (by omega), if_neg (nI_pos (by omega)), tt_n, h5.2.1]
        by_cases q : k - 2 < z_ho z
        · rw [if_neg (nI_ge q (by omega)), tt_r _ (h5.2.2.1 _ q) (by omega) (by omega), if_pos q]
        · rw [if_pos (nI_le (by omega) (by omega)), if_neg q]
      · rw [if_pos (show (8 : Int32) ≤ nI k from nI_le (a := 8) (by omega) (by omega)), if_neg k8, tt_n, show nI k - 8 = nI (k - 8) from pk_sub (b := 8) (by omega), tt_n, h5.2.1]
        by_cases q : k - 8 ≤ z_ho z
        · rw [if_neg (nI_nlt q (by omega)), tt_r _ (h5.2.2.2 _ q) (by omega) (by omega), if_pos q]
        · rw [if_pos (nI_lt (by omega) (by omega)), if_neg q]
def zig (z : zz) (k : Nat) : Int32 := if k < 15 then zf z k else if k = 15 then nI (zub z (z_sn z)) else 0
theorem x_img {F r : Nat} {z : zz} {S : sm_t} (hF : 1000 < F) (hz : zw z) (h : xk z S.1) (hr : r < 6) (h0 : ∀ k, k < 40 → S.1 (5 + r) k = 0) : ∃ g, x7_image_18 F F (nI r) 0 S = some (16, wf S (5 + r) g) ∧ ∀ k, k < 40 → g k = zig z k := by
  refine lp0 (fun f (a : sm_t) i => x7_image_18 F f (nI r) i a) 15 (fun i a => ∃ g, a = wf S (5 + r) g ∧ ∀ k, k < 40 → g k = if k < i then zf z k else 0) (fun o => ∃ g, o = some (16, wf S (5 + r) g) ∧ ∀ k, k < 40 → g k = zig z k) (a := S) (by omega) ⟨S.1 (5 + r), wf_id.symm, fun k hk => by rw [if_neg (by omega)]; exact h0 k hk⟩ (fun f a ha => ?_) (fun f i a hi ha => ?_)
  · obtain ⟨g, rfl, hg⟩ := ha
    have h' : xk z (wf S (5 + r) g).1 := xk_cg hz h (fun b hb => wf_o (by omega))
    change ∃ g1, x7_image_18 F (f + 1) (nI r) 15 (wf S (5 + r) g) = _ ∧ _
    rw [x7_image_18, if_pos (by decide)]
    unfold x7_image_46
    rw [tt_rd hr (by omega), x_bits hF hz h', tt_cI, tt_an (tt_sq_row r hr), tw_15 _ (by omega) (by omega), wI_f, wf_wf, wf_s]
    refine ⟨_, rfl, fun k hk => ?_⟩
    unfold zig
    by_cases q : k = 15
    · rw [q, pk_us, if_neg (by omega), if_pos rfl]
    · rw [pk_un q, hg k hk, if_neg q]
  · obtain ⟨g, rfl, hg⟩ := ha
    have h' : xk z (wf S (5 + r) g).1 := xk_cg hz h (fun b hb => wf_o (by omega))
    refine Or.inr ⟨wf S (5 + r) (upd g i (zf z i)), ?_, _, rfl, fun k hk => ?_⟩
    · change x7_image_18 F (f + 1) (nI r) (nI i) (wf S (5 + r) g) = x7_image_18 F f (nI r) (nI (i + 1)) _
      rw [x7_image_18, if_neg (show ¬ (15 : Int32) ≤ nI i from nI_ge (b := 15) hi (by omega)), tt_rd hr (by omega), k_number hz h' hi, tt_cI, tt_an (tt_sq_row r hr), tt_wr (by omega) (by omega), wI_f, wf_wf, wf_s, nI_1]
    · by_cases q : k = i
      · rw [q, pk_us, if_pos (by omega)]
      · rw [pk_un q, hg k hk]
        by_cases q1 : k < i
        · rw [if_pos q1, if_pos (by omega)]
        · rw [if_neg q1, if_neg (by omega)]
theorem m_img {F r : Nat} {z : zz} {J S : sm_t} (hF : 1000 < F) (hz : zw z) (h : mi z J S) (hr : r < 6) (h0 : ∀ k, k < 40 → S.1 55 (40 * r + k) = 0) : ∃ g, x8_image_19 F F (nI r) 0 S = some (16, wf S 55 g) ∧ (∀ k, k < 40 → g (40 * r + k) = zig z k) ∧ ∀ k, ¬ (40 * r ≤ k ∧ k < 40 * r + 40) → g k = S.1 55 k := by
  refine lp0 (fun f (a : sm_t) i => x8_image_19 F f (nI r) i a) 15 (fun i a => ∃ g, a = wf S 55 g ∧ (∀ k, k < 40 → g (40 * r + k) = if k < i then zf z k else 0) ∧ ∀ k, ¬ (40 * r ≤ k ∧ k < 40 * r + 40) → g k = S.1 55 k) (fun o => ∃ g, o = some (16, wf S 55 g) ∧ (∀ k, k < 40 → g (40 * r + k) = zig z k) ∧ ∀ k, ¬ (40 * r ≤ k ∧ k < 40 * r + 40) → g k = S.1 55 k) (a := S) (by omega) ⟨S.1 55, wf_id.symm, fun k hk => by rw [if_neg (by omega)]; exact h0 k hk, fun k hk => rfl⟩ (fun f a ha => ?_) (fun f i a hi ha => ?_)
  · obtain ⟨g, rfl, hg, hg2⟩ := ha
    have h' : mk z (wf S 55 g).1 := mk_cg (mk_of h) (fun b hb => wf_o (by omega)) (by rw [wf_o (by omega)])
    change ∃ g1, x8_image_19 F (f + 1) (nI r) 15 (wf S 55 g) = _ ∧ _
    rw [x8_image_19, if_pos (by decide)]
    unfold x8_image_48
    rw [m_bits hF hz h', tt_cI, tk_m40, show nI (40 * r) + 15 = nI (40 * r + 15) from nI_add _ 15, tt_wr (by omega) (by omega), wI_f, wf_wf, wf_s]
    refine ⟨_, rfl, fun k hk => ?_, fun k hk => ?_⟩
    · unfold zig
      by_cases q : k = 15
      · rw [q, pk_us, if_neg (by omega), if_pos rfl]
      · rw [pk_un (by omega), hg k hk, if_neg q]
    · rw [pk_un (by omega), hg2 k hk]
  · obtain ⟨g, rfl, hg, hg2⟩ := ha
    refine Or.inr ⟨wf S 55 (upd g (40 * r + i) (zf z i)), ?_, _, rfl, fun k hk => ?_, fun k hk => ?_⟩
    · change x8_image_19 F (f + 1) (nI r) (nI i) (wf S 55 g) = x8_image_19 F f (nI r) (nI (i + 1)) _
      rw [x8_image_19, if_neg (show ¬ (15 : Int32) ≤ nI i from nI_ge (b := 15) hi (by omega)), tt_r _ (show (wf S 55 g).1 59 i = zf z i by rw [wf_o (by omega)]; exact m_number h hi) hi (by omega), tk_m40, nI_add, tt_wr (by omega) (by omega), wI_f, wf_wf, wf_s, nI_1]
    · by_cases q : k = i
      · rw [q, pk_us, if_pos (by omega)]
      · rw [pk_un (by omega), hg k hk]
        by_cases q1 : k < i
        · rw [if_pos q1, if_pos (by omega)]
        · rw [if_neg q1, if_neg (by omega)]
    · rw [pk_un (by omega), hg2 k hk]
theorem row_0 {z : zz} {r n : Nat} : ∀ k, z_rw (zq_row z r n (fun _ => 0)) r k = 0 := fun k => by
  show (if r = r then 0 else z_rw z r k) = (0 : Int32)
  rw [if_pos rfl]
theorem q_image {z : zz} {J K S T : sm_t} (hz : zw z) (hx : xi z J S) (hm : mi z K T) {F : Nat} (hF : 1000 < F ∧ F < 2147483648) (r : Int32) : bt J K (x7_image F r S) (x8_image F r T) := by
  unfold x7_image x8_image
  rcases tt_below r 6 (by omega) with ⟨r, hr, rfl⟩ | h
  · obtain ⟨S1, e1, i1⟩ := x_renew hF hz hx hr (n := 16) (by omega)
    obtain ⟨T1, e2, i2⟩ := m_row hF.1 hm hr (n := 16) (by omega)
    have hz1 := zw_row (r := r) (n := 16) (g := fun _ => 0) hz (by omega)
    obtain ⟨g, e3, hg⟩ := x_img hF.1 hz1 (xk_of i1) hr (fun k hk => (i1.2.2.1 r k hr hk).trans (row_0 k))
    obtain ⟨g2, e4, hg2, hg3⟩ := m_img hF.1 hz1 i2 hr (fun k hk => (i2.2.2.1 r k hr hk).trans (row_0 k))
    rw [x_row1 hr, m_row1 hr, tt_cI, tt_cI, if_neg n10, if_neg n10, show x7_renew F (nI r) 16 S = _ from e1, show x8_row F (nI r) 16 T = _ from e2, tt_cV, tt_cI, e3, e4]
    exact ⟨_, _, _, _, rfl, rfl, zw_rw hz1, xi_rwg (g := zig (zq_row z r 16 (fun _ => 0))) hz1 i1 hr (fun b hb => wf_o hb) rfl (fun k hk => by rw [wf_s]; exact hg k hk), mi_rwg i2 hr (fun b hb => wf_o hb) rfl (fun k hk => by rw [wf_s]; exact hg2 k hk) (fun k hk => by rw [wf_s]; exact hg3 k hk)⟩
  · rw [x_row0 h, m_row0 h]
    exact bt_same hz hx hm (-1)
