/-! ===== which arguments are what, again ===== -/
theorem m_in1 {F n b : Nat} {S : sm_t} (h : n ≤ b) (hb : b < 2147483648) : x8_in F (nI n) 0 (nI b) S = some (1, S) := by
  rw [m_in0 hb (by omega), if_pos h]
theorem m_inN {F b : Nat} {x : Int32} {S : sm_t} (h : x.toInt < 0 ∨ (b : Int) < x.toInt) (hb : b < 2147483648) : x8_in F x 0 (nI b) S = some (0, S) := by
  rw [m_in]
  by_cases h1 : x < 0
  · rw [if_pos h1]
  · rw [if_neg h1, if_pos]
    rw [tt_lt] at h1 ⊢
    rw [tt_nI hb]
    simp only [Int32.reduceToInt] at h1
    omega
theorem x_wi1 {F n b : Nat} {S : sm_t} (h : n ≤ b) (hb : b < 2147483648) : x7_isWithin F (nI n) (nI b) S = some (1, S) := by
  unfold x7_isWithin
  rw [if_neg (nI_pos (by omega)), if_neg (nI_nlt h (by omega))]
theorem x_wiN {F b : Nat} {x : Int32} {S : sm_t} (h : x.toInt < 0 ∨ (b : Int) < x.toInt) (hb : b < 2147483648) : x7_isWithin F x (nI b) S = some (0, S) := by
  unfold x7_isWithin
  by_cases h1 : x < 0
  · rw [if_pos h1]
  · rw [if_neg h1, if_pos]
    rw [tt_lt] at h1 ⊢
    rw [tt_nI hb]
    simp only [Int32.reduceToInt] at h1
    omega
theorem x_text1 {F j : Nat} {S : sm_t} (h : j < 4) : x7_isText F (nI j) S = some (1, S) := by
  unfold x7_isText
  simp (disch := omega) only [tt_n, tt_cI, tt_cL, tt_cV, tt_rd, tt_wr, tt_wl, tt_le, tt_lt, tt_eq, tt_nI, if_pos, if_neg, tt_eta, ↓reduceIte, Int32.reduceToInt]
theorem x_text0 {F : Nat} {x : Int32} {S : sm_t} (h : x.toInt < 0 ∨ 4 ≤ x.toInt) : x7_isText F x S = some (0, S) := by
  unfold x7_isText
  by_cases h1 : x < 0
  · rw [if_pos h1]
  · rw [if_neg h1, if_pos]
    rw [tt_lt] at h1
    rw [tt_le]
    simp only [Int32.reduceToInt] at h1 ⊢
    omega
theorem m_text1 {F j : Nat} {S : sm_t} (h : j < 4) : x8_isText F (nI j) S = some (1, S) := by
  unfold x8_isText
  rw [show (3 : Int32) = nI 3 from rfl, m_in1 (by omega) (by omega)]
  rfl
theorem m_text0 {F : Nat} {x : Int32} {S : sm_t} (h : x.toInt < 0 ∨ 4 ≤ x.toInt) : x8_isText F x S = some (0, S) := by
  unfold x8_isText
  rw [show (3 : Int32) = nI 3 from rfl, m_inN (by omega) (by omega)]
  rfl
theorem x_cell1 {F j : Nat} {S : sm_t} (h : j < 120) : x1_isCell F (nI j) S = some (1, S) := by
  unfold x1_isCell
  simp (disch := omega) only [tt_n, tt_cI, tt_cL, tt_cV, tt_rd, tt_wr, tt_wl, tt_le, tt_lt, tt_eq, tt_nI, if_pos, if_neg, tt_eta, ↓reduceIte, Int32.reduceToInt]
theorem x_cell0 {F : Nat} {x : Int32} {S : sm_t} (h : x.toInt < 0 ∨ 120 ≤ x.toInt) : x1_isCell F x S = some (0, S) := by
  unfold x1_isCell
  by_cases h1 : x < 0
  · rw [if_pos h1]
  · rw [if_neg h1, if_pos]
    rw [tt_lt] at h1
    rw [tt_le]
    simp only [Int32.reduceToInt] at h1 ⊢
    omega
theorem m_cell1 {F j : Nat} {S : sm_t} (h : j < 120) : x8_isCell F (nI j) S = some (1, S) := by
  unfold x8_isCell
  rw [show (119 : Int32) = nI 119 from rfl, m_in1 (by omega) (by omega)]
  rfl
theorem m_cell0 {F : Nat} {x : Int32} {S : sm_t} (h : x.toInt < 0 ∨ 120 ≤ x.toInt) : x8_isCell F x S = some (0, S) := by
  unfold x8_isCell
  rw [show (119 : Int32) = nI 119 from rfl, m_inN (by omega) (by omega)]
  rfl
theorem x_side1 {F j : Nat} {S : sm_t} (h : j < 8) : x1_isSide F (nI j) S = some (1, S) := by
  unfold x1_isSide
  simp (disch := omega) only [tt_n, tt_cI, tt_cL, tt_cV, tt_rd, tt_wr, tt_wl, tt_le, tt_lt, tt_eq, tt_nI, if_pos, if_neg, tt_eta, ↓reduceIte, Int32.reduceToInt]
theorem x_side0 {F : Nat} {x : Int32} {S : sm_t} (h : x.toInt < 0 ∨ 8 ≤ x.toInt) : x1_isSide F x S = some (0, S) := by
  unfold x1_isSide
  by_cases h1 : x < 0
  · rw [if_pos h1]
  · rw [if_neg h1, if_pos]
    rw [tt_lt] at h1
    rw [tt_le]
    simp only [Int32.reduceToInt] at h1 ⊢
    omega
theorem m_side1 {F j : Nat} {S : sm_t} (h : j < 8) : x8_isSide F (nI j) S = some (1, S) := by
  unfold x8_isSide
  rw [show (7 : Int32) = nI 7 from rfl, m_in1 (by omega) (by omega)]
  rfl
theorem m_side0 {F : Nat} {x : Int32} {S : sm_t} (h : x.toInt < 0 ∨ 8 ≤ x.toInt) : x8_isSide F x S = some (0, S) := by
  unfold x8_isSide
  rw [show (7 : Int32) = nI 7 from rfl, m_inN (by omega) (by omega)]
  rfl
theorem tr_0 {α ρ : Type} {f : Nat → α} {n : Nat} (K : α → Option ρ) (h : 0 < n) (hn : n < 2147483648) : sm_rd f n 0 K = K (f 0) := tt_rd (j := 0) h (by omega)
theorem tw_0 {ρ : Type} {S : sm_t} {a n : Nat} {x : Int32} (K : sm_t → Option ρ) (h : 0 < n) (hn : n < 2147483648) : sm_wr S a n 0 x K = K (sm_wI S a 0 x) := tt_wr (j := 0) h (by omega)
theorem tr_1 {α ρ : Type} {f : Nat → α} {n : Nat} (K : α → Option ρ) (h : 1 < n) (hn : n < 2147483648) : sm_rd f n 1 K = K (f 1) := tt_rd (j := 1) h (by omega)
theorem tw_1 {ρ : Type} {S : sm_t} {a n : Nat} {x : Int32} (K : sm_t → Option ρ) (h : 1 < n) (hn : n < 2147483648) : sm_wr S a n 1 x K = K (sm_wI S a 1 x) := tt_wr (j := 1) h (by omega)
theorem tr_2 {α ρ : Type} {f : Nat → α} {n : Nat} (K : α → Option ρ) (h : 2 < n) (hn : n < 2147483648) : sm_rd f n 2 K = K (f 2) := tt_rd (j := 2) h (by omega)
theorem tw_2 {ρ : Type} {S : sm_t} {a n : Nat} {x : Int32} (K : sm_t → Option ρ) (h : 2 < n) (hn : n < 2147483648) : sm_wr S a n 2 x K = K (sm_wI S a 2 x) := tt_wr (j := 2) h (by omega)
theorem tr_3 {α ρ : Type} {f : Nat → α} {n : Nat} (K : α → Option ρ) (h : 3 < n) (hn : n < 2147483648) : sm_rd f n 3 K = K (f 3) := tt_rd (j := 3) h (by omega)
theorem tw_3 {ρ : Type} {S : sm_t} {a n : Nat} {x : Int32} (K : sm_t → Option ρ) (h : 3 < n) (hn : n < 2147483648) : sm_wr S a n 3 x K = K (sm_wI S a 3 x) := tt_wr (j := 3) h (by omega)
theorem tr_4 {α ρ : Type} {f : Nat → α} {n : Nat} (K : α → Option ρ) (h : 4 < n) (hn : n < 2147483648) : sm_rd f n 4 K = K (f 4) := tt_rd (j := 4) h (by omega)
theorem tw_4 {ρ : Type} {S : sm_t} {a n : Nat} {x : Int32} (K : sm_t → Option ρ) (h : 4 < n) (hn : n < 2147483648) : sm_wr S a n 4 x K = K (sm_wI S a 4 x) := tt_wr (j := 4) h (by omega)
theorem tr_5 {α ρ : Type} {f : Nat → α} {n : Nat} (K : α → Option ρ) (h : 5 < n) (hn : n < 2147483648) : sm_rd f n 5 K = K (f 5) := tt_rd (j := 5) h (by omega)
theorem tw_5 {ρ : Type} {S : sm_t} {a n : Nat} {x : Int32} (K : sm_t → Option ρ) (h : 5 < n) (hn : n < 2147483648) : sm_wr S a n 5 x K = K (sm_wI S a 5 x) := tt_wr (j := 5) h (by omega)
theorem tr_6 {α ρ : Type} {f : Nat → α} {n : Nat} (K : α → Option ρ) (h : 6 < n) (hn : n < 2147483648) : sm_rd f n 6 K = K (f 6) := tt_rd (j := 6) h (by omega)
theorem tw_6 {ρ : Type} {S : sm_t} {a n : Nat} {x : Int32} (K : sm_t → Option ρ) (h : 6 < n) (hn : n < 2147483648) : sm_wr S a n 6 x K = K (sm_wI S a 6 x) := tt_wr (j := 6) h (by omega)
theorem tr_7 {α ρ : Type} {f : Nat → α} {n : Nat} (K : α → Option ρ) (h : 7 < n) (hn : n < 2147483648) : sm_rd f n 7 K = K (f 7) := tt_rd (j := 7) h (by omega)
theorem tw_7 {ρ : Type} {S : sm_t} {a n : Nat} {x : Int32} (K : sm_t → Option ρ) (h : 7 < n) (hn : n < 2147483648) : sm_wr S a n 7 x K = K (sm_wI S a 7 x) := tt_wr (j := 7) h (by omega)
theorem tr_8 {α ρ : Type} {f : Nat → α} {n : Nat} (K : α → Option ρ) (h : 8 < n) (hn : n < 2147483648) : sm_rd f n 8 K = K (f 8) := tt_rd (j := 8) h (by omega)
theorem tw_8 {ρ : Type} {S : sm_t} {a n : Nat} {x : Int32} (K : sm_t → Option ρ) (h : 8 < n) (hn : n < 2147483648) : sm_wr S a n 8 x K = K (sm_wI S a 8 x) := tt_wr (j := 8) h (by omega)
theorem tr_9 {α ρ : Type} {f : Nat → α} {n : Nat} (K : α → Option ρ) (h : 9 < n) (hn : n < 2147483648) : sm_rd f n 9 K = K (f 9) := tt_rd (j := 9) h (by omega)
theorem tw_9 {ρ : Type} {S : sm_t} {a n : Nat} {x : Int32} (K : sm_t → Option ρ) (h : 9 < n) (hn : n < 2147483648) : sm_wr S a n 9 x K = K (sm_wI S a 9 x) := tt_wr (j := 9) h (by omega)
theorem tr_10 {α ρ : Type} {f : Nat → α} {n : Nat} (K : α → Option ρ) (h : 10 < n) (hn : n < 2147483648) : sm_rd f n 10 K = K (f 10) := tt_rd (j := 10) h (by omega)
theorem tw_10 {ρ : Type} {S : sm_t} {a n : Nat} {x : Int32} (K : sm_t → Option ρ) (h : 10 < n) (hn : n < 2147483648) : sm_wr S a n 10 x K = K (sm_wI S a 10 x) := tt_wr (j := 10) h (by omega)
theorem tr_11 {α ρ : Type} {f : Nat → α} {n : Nat} (K : α → Option ρ) (h : 11 < n) (hn : n < 2147483648) : sm_rd f n 11 K = K (f 11) := tt_rd (j := 11) h (by omega)
theorem tw_11 {ρ : Type} {S : sm_t} {a n : Nat} {x : Int32} (K : sm_t → Option ρ) (h : 11 < n) (hn : n < 2147483648) : sm_wr S a n 11 x K = K (sm_wI S a 11 x) := tt_wr (j := 11) h (by omega)
theorem tr_12 {α ρ : Type} {f : Nat → α} {n : Nat} (K : α → Option ρ) (h : 12 < n) (hn : n < 2147483648) : sm_rd f n 12 K = K (f 12) := tt_rd (j := 12) h (by omega)
theorem tw_12 {ρ : Type} {S : sm_t} {a n : Nat} {x : Int32} (K : sm_t → Option ρ) (h : 12 < n) (hn : n < 2147483648) : sm_wr S a n 12 x K = K (sm_wI S a 12 x) := tt_wr (j := 12) h (by omega)
theorem tr_13 {α ρ : Type} {f : Nat → α} {n : Nat} (K : α → Option ρ) (h : 13 < n) (hn : n < 2147483648) : sm_rd f n 13 K = K (f 13) := tt_rd (j := 13) h (by omega)
theorem tw_13 {ρ : Type} {S : sm_t} {a n : Nat} {x : Int32} (K : sm_t → Option ρ) (h : 13 < n) (hn : n < 2147483648) : sm_wr S a n 13 x K = K (sm_wI S a 13 x) := tt_wr (j := 13) h (by omega)
theorem tr_14 {α ρ : Type} {f : Nat → α} {n : Nat} (K : α → Option ρ) (h : 14 < n) (hn : n < 2147483648) : sm_rd f n 14 K = K (f 14) := tt_rd (j := 14) h (by omega)
theorem tw_14 {ρ : Type} {S : sm_t} {a n : Nat} {x : Int32} (K : sm_t → Option ρ) (h : 14 < n) (hn : n < 2147483648) : sm_wr S a n 14 x K = K (sm_wI S a 14 x) := tt_wr (j := 14) h (by omega)
theorem tr_15 {α ρ : Type} {f : Nat → α} {n : Nat} (K : α → Option ρ) (h : 15 < n) (hn : n < 2147483648) : sm_rd f n 15 K = K (f 15) := tt_rd (j := 15) h (by omega)
theorem tw_15 {ρ : Type} {S : sm_t} {a n : Nat} {x : Int32} (K : sm_t → Option ρ) (h : 15 < n) (hn : n < 2147483648) : sm_wr S a n 15 x K = K (sm_wI S a 15 x) := tt_wr (j := 15) h (by omega)
theorem tr_16 {α ρ : Type} {f : Nat → α} {n : Nat} (K : α → Option ρ) (h : 16 < n) (hn : n < 2147483648) : sm_rd f n 16 K = K (f 16) := tt_rd (j := 16) h (by omega)
theorem tw_16 {ρ : Type} {S : sm_t} {a n : Nat} {x : Int32} (K : sm_t → Option ρ) (h : 16 < n) (hn : n < 2147483648) : sm_wr S a n 16 x K = K (sm_wI S a 16 x) := tt_wr (j := 16) h (by omega)
/-! texts -/
theorem z1t {z : zz} {t n : Nat} (hz : zw z) (hn : n ≤ 80) : zw (zq_ts z (z1r (z_ts z) t (some n))) := by
  refine ⟨hz.1, fun i k hk => ?_, hz.2.2⟩
  change (if i = t then some n else z_ts z i) = some k at hk
  split at hk
  · cases hk
    exact hn
  · exact hz.2.1 i k hk
theorem z2t {z : zz} {t : Nat} {g : Nat → Int32} (hz : zw z) (hg : ∀ k, k < 80 → -128 ≤ (g k).toInt ∧ (g k).toInt ≤ 127) : zw (zq_tw z (z2r (z_tw z) t g)) := by
  refine ⟨hz.1, hz.2.1, hz.2.2.1, hz.2.2.2.1, hz.2.2.2.2.1, hz.2.2.2.2.2.1, fun i k hi hk => ?_⟩
  change -128 ≤ (if i = t then g k else z_tw z i k).toInt ∧ (if i = t then g k else z_tw z i k).toInt ≤ 127
  split
  · exact hg k hk
  · exact hz.2.2.2.2.2.2 i k hi hk
theorem xi_ts {z : zz} {J S : sm_t} {r : Nat} {o : Option Nat} (hz : zw z) (h : xi z J S) (hr : r < 4) : xi (zq_ts z (z1r (z_ts z) r o)) J (sm_wI S 17 r (z_x o)) := by
  refine xc_ts _ hz h (fun b hb => tt_1 hb) rfl (fun i hi => ?_)
  rw [tt_1s]
  unfold z1r
  split
  · rfl
  · exact h.2.2.2.1 i hi
theorem mi_ts {z : zz} {J S : sm_t} {r : Nat} {o : Option Nat} (h : mi z J S) (hr : r < 4) : mi (zq_ts z (z1r (z_ts z) r o)) J (sm_wI S 57 r (z_m o)) := by
  refine mc_ts _ h (fun b hb => tt_1 hb) rfl (fun i hi => ?_)
  rw [tt_1s]
  unfold z1r
  split
  · rfl
  · exact h.2.2.2.1 i hi
theorem xi_twg {z : zz} {J S S1 : sm_t} {r : Nat} {g : Nat → Int32} (hz : zw z) (h : xi z J S) (hr : r < 4) (hb : ∀ b, b ≠ 13 + r → S1.1 b = S.1 b) (h2 : S1.2 = S.2) (hg : ∀ k, k < 80 → S1.1 (13 + r) k = g k) : xi (zq_tw z (z2r (z_tw z) r g)) J S1 := by
  refine xc_tw _ hz h (fun b q => hb b (by omega)) h2 (fun i k hi hk => ?_)
  unfold z2r
  by_cases q : i = r
  · rw [if_pos q, q]
    exact hg k hk
  · rw [if_neg q, hb _ (by omega)]
    exact h.2.2.2.2.1 i k hi hk
theorem mi_twg {z : zz} {J S S1 : sm_t} {r : Nat} {g : Nat → Int32} (h : mi z J S) (hr : r < 4) (hb : ∀ b, b ≠ 58 → S1.1 b = S.1 b) (h2 : S1.2 = S.2) (hg : ∀ k, k < 80 → S1.1 58 (80 * r + k) = g k) (ho : ∀ k, ¬ (80 * r ≤ k ∧ k < 80 * r + 80) → S1.1 58 k = S.1 58 k) : mi (zq_tw z (z2r (z_tw z) r g)) J S1 := by
  refine mc_tw _ h (fun b q => hb b q) h2 (fun i k hi hk => ?_)
  unfold z2r
  by_cases q : i = r
  · rw [if_pos q, q]
    exact hg k hk
  · rw [if_neg q, ho _ (by omega)]
    exact h.2.2.2.2.1 i k hi hk
theorem x_fillb5 {F a n : Nat} (ha : sm_sq a = some (.inl (.byte, n))) (hn : n < 2147483648) : ∀ (d f j : Nat) (S : sm_t), j + d = n → d < f → ∃ g, xA_fillB_5 F f a 32 (nI j) (nI n) S = some (wf S a g) ∧ ∀ k, g k = if j ≤ k ∧ k < n then 32 else S.1 a k := by
  intro d
  induction d with
  | zero =>
    intro f j S h1 h2
    obtain ⟨f, rfl⟩ : ∃ f0, f = f0 + 1 := ⟨f - 1, by omega⟩
    refine ⟨S.1 a, ?_, fun k => by rw [if_neg (by omega)]⟩
    unfold xA_fillB_5
    rw [if_pos (nI_le (by omega) (by omega)), wf_id]
  | succ d ih =>
    intro f j S h1 h2
    obtain ⟨f, rfl⟩ : ∃ f0, f = f0 + 1 := ⟨f - 1, by omega⟩
    obtain ⟨g, e, hg⟩ := ih f (j + 1) (sm_wI S a j 32) (by omega) (by omega)
    refine ⟨g, ?_, fun k => ?_⟩
    · unfold xA_fillB_5
      rw [if_neg (nI_ge (by omega) (by omega)), tt_an ha, tt_wr (by omega) (by omega), nI_1, show vp_nar .byte 32 = 32 from by decide, e, wI_f, wf_wf]
    · rw [hg k, tt_1s]
      by_cases q : k = j
      · rw [if_neg (by omega), if_pos q, if_pos (by omega)]
      · rw [if_neg q]
        by_cases q1 : j ≤ k ∧ k < n
        · rw [if_pos q1, if_pos (by omega)]
        · rw [if_neg q1, if_neg (by omega)]
theorem m_text34 {F r : Nat} {v : Int32} (hr : r < 4) : ∀ (d f j : Nat) (S : sm_t), j + d = 80 → d < f → ∃ g, x8_text_34 F f (nI r) v (nI j) S = some (v, wf S 58 g) ∧ ∀ k, g k = if 80 * r + j ≤ k ∧ k < 80 * r + 80 then 32 else S.1 58 k := by
  intro d
  induction d with
  | zero =>
    intro f j S h1 h2
    obtain ⟨f, rfl⟩ : ∃ f0, f = f0 + 1 := ⟨f - 1, by omega⟩
    refine ⟨S.1 58, ?_, fun k => by rw [if_neg (by omega)]⟩
    unfold x8_text_34
    rw [wf_id]
    simp (disch := omega) only [tt_n, tt_cI, tt_cL, tt_cV, tt_rd, tt_wr, tt_wl, tt_le, tt_lt, tt_eq, tt_nI, if_pos, if_neg, tt_eta, ↓reduceIte, Int32.reduceToInt]
  | succ d ih =>
    intro f j S h1 h2
    obtain ⟨f, rfl⟩ : ∃ f0, f = f0 + 1 := ⟨f - 1, by omega⟩
    obtain ⟨g, e, hg⟩ := ih f (j + 1) (sm_wI S 58 (80 * r + j) 32) (by omega) (by omega)
    refine ⟨g, ?_, fun k => ?_⟩
    · unfold x8_text_34
      simp (disch := omega) only [tt_n, tt_cI, tt_cL, tt_cV, tt_rd, tt_wr, tt_wl, tt_le, tt_lt, tt_eq, tt_nI, if_pos, if_neg, tt_eta, ↓reduceIte, Int32.reduceToInt, nI_add, pk_mul, tk_m1, tk_n1, tk_a1, tk_b1, tk_m2, tk_n2, tk_a2, tk_b2, tk_m3, tk_n3, tk_a3, tk_b3, tk_m4, tk_n4, tk_a4, tk_b4, tk_m5, tk_n5, tk_a5, tk_b5, tk_m7, tk_n7, tk_a7, tk_b7, tk_m8, tk_n8, tk_a8, tk_b8, tk_m10, tk_n10, tk_a10, tk_b10, tk_m12, tk_n12, tk_a12, tk_b12, tk_m16, tk_n16, tk_a16, tk_b16, tk_m32, tk_n32, tk_a32, tk_b32, tk_m40, tk_n40, tk_a40, tk_b40, tk_m48, tk_n48, tk_a48, tk_b48, tk_m80, tk_n80, tk_a80, tk_b80, tk_m100, tk_n100, tk_a100, tk_b100, tk_m120, tk_n120, tk_a120, tk_b120, tk_m1000, tk_n1000, tk_a1000, tk_b1000]
      rw [e, wI_f, wf_wf]
    · rw [hg k, tt_1s]
      by_cases q : k = 80 * r + j
      · rw [if_neg (by omega), if_pos q, if_pos (by omega)]
      · rw [if_neg q]
        by_cases q1 : 80 * r + j ≤ k ∧ k < 80 * r + 80
        · rw [if_pos q1, if_pos (by omega)]
        · rw [if_neg q1, if_neg (by omega)]
theorem q_text {z : zz} {J K S T : sm_t} (hz : zw z) (hx : xi z J S) (hm : mi z K T) {F : Nat} (hF : 1000 < F) (r n : Int32) : bt J K (x7_text F r n S) (x8_text F r n T) := by
  rcases tt_below r 4 (by omega) with ⟨r, hr, rfl⟩ | h
  · rcases tt_below n 81 (by omega) with ⟨n, hn, rfl⟩ | h
    · obtain ⟨g, e, hg⟩ := x_fillb5 (F := F) (tt_sq_text r hr) (by omega) 80 F 0 (sm_wI S 17 r (nI n)) (by omega) (by omega)
      obtain ⟨g2, e2, hg2⟩ := m_text34 (F := F) (v := nI n) hr 80 F 0 (sm_wI T 57 r (nI n)) (by omega) (by omega)
      have e0 : xA_fillB F (13 + r) 32 (sm_wI S 17 r (nI n)) = some (wf (sm_wI S 17 r (nI n)) (13 + r) g) := by
        unfold xA_fillB
        rw [tt_an (tt_sq_text r hr), tt_n]
        exact e
      have h1 : xi (zq_ts z (z1r (z_ts z) r (some n))) J (sm_wI S 17 r (nI n)) := xi_ts hz hx hr
      have h2 : mi (zq_ts z (z1r (z_ts z) r (some n))) K (sm_wI T 57 r (nI n)) := mi_ts hm hr
      have hz1 := z1t (t := r) hz (show n ≤ 80 by omega)
      refine ⟨nI n, zq_tw _ (z2r _ r (fun _ => 32)), wf (sm_wI S 17 r (nI n)) (13 + r) g, wf (sm_wI T 57 r (nI n)) 58 g2, ?_, ?_, z2t hz1 (fun k hk => by decide), xi_twg hz1 h1 hr (fun b hb => wf_o hb) rfl (fun k hk => ?_), mi_twg h2 hr (fun b hb => wf_o hb) rfl (fun k hk => ?_) (fun k hk => ?_)⟩
      · unfold x7_text
        simp (disch := first | omega | (simp (disch := omega) only [tt_le, tt_lt, tt_eq, tt_nI, Int32.reduceToInt, tt_neg9, tt_neg1, tt_neg3] <;> omega) | fail) only [↓tt_n, ↓tt_cI, ↓tt_cL, ↓tt_cV, ↓tt_rd, ↓tt_wr, ↓tt_wl, ↓if_pos, ↓if_neg, ↓tt_eta, ↓tt_e _ (x_text1 hr), ↓tt_eV _ e0]
      · unfold x8_text
        simp (disch := first | omega | (simp (disch := omega) only [tt_le, tt_lt, tt_eq, tt_nI, Int32.reduceToInt, tt_neg9, tt_neg1, tt_neg3] <;> omega) | fail) only [↓tt_n, ↓tt_cI, ↓tt_cL, ↓tt_cV, ↓tt_rd, ↓tt_wr, ↓tt_wl, ↓if_pos, ↓if_neg, ↓tt_eta, ↓tt_e _ (m_text1 hr)]
        exact e2
      · rw [wf_s, hg, if_pos (by omega)]
      · rw [wf_s, hg2, if_pos (by omega)]
      · rw [wf_s, hg2, if_neg (by omega)]
    · unfold x7_text x8_text
      by_cases h0 : n.toInt < 0
      · simp (disch := first | omega | (simp (disch := omega) only [tt_le, tt_lt, tt_eq, tt_nI, Int32.reduceToInt, tt_neg9, tt_neg1, tt_neg3] <;> omega) | fail) only [↓tt_n, ↓tt_cI, ↓tt_cL, ↓tt_cV, ↓tt_rd, ↓tt_wr, ↓tt_wl, ↓if_pos, ↓if_neg, ↓tt_eta, ↓tt_e _ (x_text1 hr), ↓tt_e _ (m_text1 hr), x_f5, m_f5]
        exact bt_fd hz hx hm (by omega)
      · simp (disch := first | omega | (simp (disch := omega) only [tt_le, tt_lt, tt_eq, tt_nI, Int32.reduceToInt, tt_neg9, tt_neg1, tt_neg3] <;> omega) | fail) only [↓tt_n, ↓tt_cI, ↓tt_cL, ↓tt_cV, ↓tt_rd, ↓tt_wr, ↓tt_wl, ↓if_pos, ↓if_neg, ↓tt_eta, ↓tt_e _ (x_text1 hr), ↓tt_e _ (m_text1 hr)]
        exact bt_same hz hx hm _
  · unfold x7_text x8_text
    rw [x_text0 h, m_text0 h]
    exact bt_same hz hx hm (-1)
