/-! ===== brought: the reference ===== -/
theorem mk_68 {z : zz} {T : sm_t} {g : Nat → Int32} (h : mk z T.1) : mk z (wf T 69 g).1 := mk_cg h (fun b hb => wf_o (by omega)) (by rw [wf_o (by omega)])
theorem mi_68 {z : zz} {K T : sm_t} {g : Nat → Int32} (h : mi z K T) : mi z K (wf T 69 g) := mc_sc h (fun b hb => wf_o (by omega)) ⟨by rw [wf_o (by omega)], by rw [wf_o (by omega)], by rw [wf_o (by omega)], by rw [wf_o (by omega)]⟩ (fun b hb => rfl) ⟨rfl, rfl⟩ rfl
theorem p1_same {z : zz} {t d k : Nat} (h : k % 8 = z_co z (k / 8)) : p1 z t d k = zch z t d (z_co z) (z_ho z) := by
  unfold p1
  refine zch_c _ (fun j hj => ?_)
  show (if k / 8 = j then k % 8 else z_co z j) = z_co z j
  by_cases q : k / 8 = j
  · rw [if_pos q, h, q]
  · rw [if_neg q]
theorem m_b20 {F t d : Nat} {z : zz} {T : sm_t} (hF : 100000 < F) (hz : zw z) (h : mk z T.1) : ∃ g, (∀ k, k < z_ho z → g k = nI (z_co z k)) ∧ x8_brought_20 F F (nI t) (nI d) 0 T = x8_brought_45 F (nI t) (nI d) (wf T 69 g) := by
  have hh := hz.2.2.1.2.1
  refine lp0 (fun f (a : sm_t) i => x8_brought_20 F f (nI t) (nI d) i a) (z_ho z) (fun i a => ∃ g, (∀ k, k < i → g k = nI (z_co z k)) ∧ a = wf T 69 g) (fun o => ∃ g, (∀ k, k < z_ho z → g k = nI (z_co z k)) ∧ o = x8_brought_45 F (nI t) (nI d) (wf T 69 g)) (f := F) (a := T) (by omega) ⟨T.1 69, fun k hk => by omega, wf_id.symm⟩ (fun f a ha => ?_) (fun f i a hi ha => ?_)
  · obtain ⟨g, hg, rfl⟩ := ha
    refine ⟨g, hg, ?_⟩
    change x8_brought_20 F (f + 1) (nI t) (nI d) (nI (z_ho z)) (wf T 69 g) = _
    rw [x8_brought_20, k_hours (mk_68 h), tt_cI, if_pos (nI_le (by omega) (by omega))]
  · obtain ⟨g, hg, rfl⟩ := ha
    refine Or.inr ⟨wf T 69 (upd g i (nI (z_co z i))), ?_, _, fun k hk => ?_, rfl⟩
    · change x8_brought_20 F (f + 1) (nI t) (nI d) (nI i) (wf T 69 g) = x8_brought_20 F f (nI t) (nI d) (nI (i + 1)) _
      rw [x8_brought_20, k_hours (mk_68 h), tt_cI, if_neg (nI_ge hi (by omega)), k_courseOf hz (mk_68 h) hi, tt_cI, tt_wr (by omega) (by omega), wI_f, wf_wf, wf_s, nI_1]
    · by_cases q : k = i
      · rw [q, pk_us]
      · rw [pk_un q]
        exact hg k (by omega)
theorem m_b78 {F t d h0 : Nat} {z : zz} {T : sm_t} {c69 : Int32 → Int32 → Int32 → Int32 → sm_t → Option (Int32 × sm_t)} {g0 : Nat → Int32} (hF : 100000 < F) (hz : zw z) (h : mk z T.1) (ht : t < 120) (hd : d < 6) (hh0 : h0 < z_ho z) (hg0 : ∀ k, k < z_ho z → g0 k = nI (z_co z k)) (hno : zch z t d (z_co z) (z_ho z) = false) : (∃ s, s < 8 ∧ p1 z t d (8 * h0 + s) = true ∧ (∀ j, j < s → p1 z t d (8 * h0 + j) = false) ∧ ∃ g, x8_brought_78 F c69 F (nI t) (nI d) (nI (z_ho z)) (nI h0) 0 (wf T 69 g0) = some (1, sm_wI (wf T 69 g) 52 2 (nI (tA (8 * h0 + s))))) ∨ ((∀ j, j < 8 → p1 z t d (8 * h0 + j) = false) ∧ ∃ g, (∀ k, k < z_ho z → g k = nI (z_co z k)) ∧ x8_brought_78 F c69 F (nI t) (nI d) (nI (z_ho z)) (nI h0) 0 (wf T 69 g0) = c69 (nI t) (nI d) (nI (z_ho z)) (nI (h0 + 1)) (wf T 69 g)) := by
  have hh := hz.2.2.1.2.1
  have hco := hz.2.2.1.2.2.1 h0 hh0
  refine lp0 (fun f (a : sm_t) i => x8_brought_78 F c69 f (nI t) (nI d) (nI (z_ho z)) (nI h0) i a) 8 (fun i a => (∀ j, j < i → p1 z t d (8 * h0 + j) = false) ∧ ∃ g, (∀ k, k < z_ho z → k ≠ h0 → g k = nI (z_co z k)) ∧ a = wf T 69 g) (fun o => (∃ s, s < 8 ∧ p1 z t d (8 * h0 + s) = true ∧ (∀ j, j < s → p1 z t d (8 * h0 + j) = false) ∧ ∃ g, o = some (1, sm_wI (wf T 69 g) 52 2 (nI (tA (8 * h0 + s))))) ∨ ((∀ j, j < 8 → p1 z t d (8 * h0 + j) = false) ∧ ∃ g, (∀ k, k < z_ho z → g k = nI (z_co z k)) ∧ o = c69 (nI t) (nI d) (nI (z_ho z)) (nI (h0 + 1)) (wf T 69 g))) (f := F) (a := wf T 69 g0) (by omega) ⟨fun j hj => by omega, g0, fun k hk _ => hg0 k hk, rfl⟩ (fun f a ha => ?_) (fun f i a hi ha => ?_)
  · obtain ⟨hp, g, hg, rfl⟩ := ha
    refine Or.inr ⟨hp, upd g h0 (nI (z_co z h0)), fun k hk => ?_, ?_⟩
    · by_cases q : k = h0
      · rw [q, pk_us]
      · rw [pk_un q]
        exact hg k hk q
    · change x8_brought_78 F c69 (f + 1) (nI t) (nI d) (nI (z_ho z)) (nI h0) 8 (wf T 69 g) = _
      rw [x8_brought_78, if_pos (by decide)]
      unfold x8_brought_134
      rw [k_courseOf hz (mk_68 h) hh0, tt_cI, tt_wr (by omega) (by omega), wI_f, wf_wf, wf_s, nI_1]
  · obtain ⟨hp, g, hg, rfl⟩ := ha
    have hg1 : ∀ k, k < z_ho z → (wf T 69 (upd g h0 (nI i))).1 69 k = nI (cg z (some (8 * h0 + i)) none k) := by
      intro k hk
      rw [wf_s]
      show upd g h0 (nI i) k = nI (if (8 * h0 + i) / 8 = k then (8 * h0 + i) % 8 else z_co z k)
      by_cases q : k = h0
      · rw [q, pk_us, if_pos (by omega), show (8 * h0 + i) % 8 = i by omega]
      · rw [pk_un q, if_neg (by omega)]
        exact hg k hk q
    have e := m_cmi (F := F) (g := cg z (some (8 * h0 + i)) none) hF hz (mk_68 (g := upd g h0 (nI i)) h) ht hd (fun k hk => cg_lt hz hk) hg1
    have e0 : x8_brought_78 F c69 (f + 1) (nI t) (nI d) (nI (z_ho z)) (nI h0) (nI i) (wf T 69 g) = if nI i = nI (z_co z h0) then x8_brought_78 F c69 f (nI t) (nI d) (nI (z_ho z)) (nI h0) (nI (i + 1)) (wf T 69 (upd g h0 (nI i))) else if nI (zi (p1 z t d (8 * h0 + i))) = 0 then x8_brought_78 F c69 f (nI t) (nI d) (nI (z_ho z)) (nI h0) (nI (i + 1)) (wf T 69 (upd g h0 (nI i))) else x8_brought_114 F (nI h0) (nI i) (wf T 69 (upd g h0 (nI i))) := by
      rw [x8_brought_78, if_neg (show ¬ (8 : Int32) ≤ nI i from nI_ge (b := 8) hi (by omega)), tt_wr (by omega) (by omega), wI_f, wf_wf, wf_s, k_courseOf hz (mk_68 h) hh0, tt_cI, e, tt_cI, nI_1]
      rfl
    have e114 : x8_brought_114 F (nI h0) (nI i) (wf T 69 (upd g h0 (nI i))) = some (1, sm_wI (wf T 69 (upd g h0 (nI i))) 52 2 (nI (tA (8 * h0 + i)))) := by
      unfold x8_brought_114 tA
      rw [x_ak2, tt_cI, tk_m10, nI_add, show (8 * h0 + i) / 8 * 10 + (8 * h0 + i) % 8 = 10 * h0 + i by omega]
    have nx : p1 z t d (8 * h0 + i) = false → ∀ j, j < i + 1 → p1 z t d (8 * h0 + j) = false := fun q j hj => by
      by_cases q1 : j = i
      · rw [q1, q]
      · exact hp j (by omega)
    have hg2 : ∀ k, k < z_ho z → k ≠ h0 → upd g h0 (nI i) k = nI (z_co z k) := fun k hk q => by
      rw [pk_un q]
      exact hg k hk q
    by_cases qc : i = z_co z h0
    · have hf : p1 z t d (8 * h0 + i) = false := by
        rw [p1_same (by rw [show (8 * h0 + i) % 8 = i by omega, show (8 * h0 + i) / 8 = h0 by omega]; exact qc), hno]
      refine Or.inr ⟨wf T 69 (upd g h0 (nI i)), ?_, nx hf, _, hg2, rfl⟩
      rw [e0, if_pos (by rw [qc])]
    · cases q : p1 z t d (8 * h0 + i) with
      | true =>
        refine Or.inl (Or.inl ⟨i, hi, q, hp, upd g h0 (nI i), ?_⟩)
        rw [e0, if_neg (fun p => qc ((nI_eq (by omega) (by omega)).mp p)), q, if_neg (zi_1 rfl), e114]
      | false =>
        refine Or.inr ⟨wf T 69 (upd g h0 (nI i)), ?_, nx q, _, hg2, rfl⟩
        rw [e0, if_neg (fun p => qc ((nI_eq (by omega) (by omega)).mp p)), q, if_pos (zi_0 rfl)]
theorem m_first {F t d : Nat} {z : zz} {T : sm_t} {g0 : Nat → Int32} (hF : 100000 < F) (hz : zw z) (h : mk z T.1) (ht : t < 120) (hd : d < 6) (hg0 : ∀ k, k < z_ho z → g0 k = nI (z_co z k)) (hno : zch z t d (z_co z) (z_ho z) = false) : (∃ k, k < 8 * z_ho z ∧ p1 z t d k = true ∧ (∀ j, j < k → p1 z t d j = false) ∧ ∃ g, x8_brought_69 F F (nI t) (nI d) (nI (z_ho z)) 0 (wf T 69 g0) = some (1, sm_wI (wf T 69 g) 52 2 (nI (tA k)))) ∨ ((∀ j, j < 8 * z_ho z → p1 z t d j = false) ∧ ∃ g, (∀ k, k < z_ho z → g k = nI (z_co z k)) ∧ x8_brought_69 F F (nI t) (nI d) (nI (z_ho z)) 0 (wf T 69 g0) = x8_brought_156 F F (nI t) (nI d) (nI (z_ho z)) 0 (wf T 69 g)) := by
  have hh := hz.2.2.1.2.1
  refine lp0 (fun f (a : sm_t) i => x8_brought_69 F f (nI t) (nI d) (nI (z_ho z)) i a) (z_ho z) (fun i a => (∀ j, j < 8 * i → p1 z t d j = false) ∧ ∃ g, (∀ k, k < z_ho z → g k = nI (z_co z k)) ∧ a = wf T 69 g) (fun o => (∃ k, k < 8 * z_ho z ∧ p1 z t d k = true ∧ (∀ j, j < k → p1 z t d j = false) ∧ ∃ g, o = some (1, sm_wI (wf T 69 g) 52 2 (nI (tA k)))) ∨ ((∀ j, j < 8 * z_ho z → p1 z t d j = false) ∧ ∃ g, (∀ k, k < z_ho z → g k = nI (z_co z k)) ∧ o = x8_brought_156 F F (nI t) (nI d) (nI (z_ho z)) 0 (wf T 69 g))) (f := F) (a := wf T 69 g0) (by omega) ⟨fun j hj => by omega, g0, hg0, rfl⟩ (fun f a ha => ?_) (fun f i a hi ha => ?_)
  · obtain ⟨hp, g, hg, rfl⟩ := ha
    refine Or.inr ⟨hp, g, hg, ?_⟩
    change x8_brought_69 F (f + 1) (nI t) (nI d) (nI (z_ho z)) (nI (z_ho z)) (wf T 69 g) = _
    rw [x8_brought_69, if_pos (nI_le (by omega) (by omega))]
  · obtain ⟨hp, g, hg, rfl⟩ := ha
    have e0 : x8_brought_69 F (f + 1) (nI t) (nI d) (nI (z_ho z)) (nI i) (wf T 69 g) = x8_brought_78 F (x8_brought_69 F f) F (nI t) (nI d) (nI (z_ho z)) (nI i) 0 (wf T 69 g) := by
      rw [x8_brought_69, if_neg (nI_ge hi (by omega))]
    rcases m_b78 (c69 := x8_brought_69 F f) hF hz h ht hd hi hg hno with ⟨s, h1, h2, h3, g1, h4⟩ | ⟨h3, g1, h4, h5⟩
    · refine Or.inl (Or.inl ⟨8 * i + s, by omega, h2, fun j hj => ?_, g1, e0.trans h4⟩)
      by_cases q : j < 8 * i
      · exact hp j q
      · have := h3 (j - 8 * i) (by omega)
        rw [show 8 * i + (j - 8 * i) = j by omega] at this
        exact this
    · refine Or.inr ⟨wf T 69 g1, e0.trans h5, fun j hj => ?_, g1, h4, rfl⟩
      by_cases q : j < 8 * i
      · exact hp j q
      · have := h3 (j - 8 * i) (by omega)
        rw [show 8 * i + (j - 8 * i) = j by omega] at this
        exact this
theorem p2_1 {z : zz} {t d k m : Nat} (h : k % 8 = z_co z (k / 8)) : p2 z t d k m = true → k / 8 < m / 8 → p1 z t d m = true := by
  intro h2 h3
  rw [← h2]
  unfold p1 p2
  refine zch_c _ (fun j hj => ?_)
  show (if m / 8 = j then m % 8 else z_co z j) = if k / 8 = j then k % 8 else if m / 8 = j then m % 8 else z_co z j
  by_cases q : k / 8 = j
  · rw [if_pos q, if_neg (by omega), h, q]
  · rw [if_neg q]
theorem p2_2 {z : zz} {t d k m : Nat} (h : m % 8 = z_co z (m / 8)) : p2 z t d k m = true → p1 z t d k = true := by
  intro h2
  rw [← h2]
  unfold p1 p2
  refine zch_c _ (fun j hj => ?_)
  show (if k / 8 = j then k % 8 else z_co z j) = if k / 8 = j then k % 8 else if m / 8 = j then m % 8 else z_co z j
  by_cases q : k / 8 = j
  · rw [if_pos q, if_pos q]
  · rw [if_neg q, if_neg q]
    by_cases q1 : m / 8 = j
    · rw [if_pos q1, h, q1]
    · rw [if_neg q1]
theorem m_second {F t d : Nat} {z : zz} {T : sm_t} {g0 : Nat → Int32} (hF : 100000 < F) (hz : zw z) (h : mk z T.1) (ht : t < 120) (hd : d < 6) (hg0 : ∀ k, k < z_ho z → g0 k = nI (z_co z k)) (hno : ∀ j, j < 8 * z_ho z → p1 z t d j = false) : (∃ k m, k < 8 * z_ho z ∧ m < 8 * z_ho z ∧ k / 8 < m / 8 ∧ p2 z t d k m = true ∧ (∀ i j, i < 8 * z_ho z → j < 8 * z_ho z → i / 8 < j / 8 → (i < k ∨ i = k ∧ j < m) → p2 z t d i j = false) ∧ ∃ g, x8_brought_156 F F (nI t) (nI d) (nI (z_ho z)) 0 (wf T 69 g0) = some (2, sm_wI (wf T 69 g) 52 2 (nI (tA k + 100 + 100 * tA m)))) ∨ ((∀ i j, i < 8 * z_ho z → j < 8 * z_ho z → i / 8 < j / 8 → p2 z t d i j = false) ∧ ∃ g, x8_brought_156 F F (nI t) (nI d) (nI (z_ho z)) 0 (wf T 69 g0) = some (-9, wf T 69 g)) := by
  have hh := hz.2.2.1.2.1
  generalize hA : 8 * z_ho z = A at hno ⊢
  have hM : 8 * z_ho z * 8 * z_ho z = A * A := by rw [Nat.mul_assoc (8 * z_ho z) 8 (z_ho z), hA]
  have hAA : A * A ≤ 48 * 48 := Nat.mul_le_mul (by omega) (by omega)
  have hlt : ∀ i j, i < A → j < A → i * A + j < A * A := fun i j hi hj => by
    have : (i + 1) * A ≤ A * A := Nat.mul_le_mul_right _ hi
    rw [Nat.succ_mul] at this
    omega
  have hdv : ∀ i j, j < A → (i * A + j) / A = i ∧ (i * A + j) % A = j := fun i j hj => by
    rw [Nat.mul_comm]
    exact ⟨by rw [Nat.mul_add_div (by omega), Nat.div_eq_of_lt hj, Nat.add_zero], by rw [Nat.mul_add_mod, Nat.mod_eq_of_lt hj]⟩
  refine lp0 (fun f (a : sm_t) i => x8_brought_156 F f (nI t) (nI d) (nI (z_ho z)) i a) (A * A) (fun i a => (∀ j, j < i → (j / A) / 8 < (j % A) / 8 → p2 z t d (j / A) (j % A) = false) ∧ ∃ g, (∀ k, k < z_ho z → g k = nI (z_co z k)) ∧ a = wf T 69 g) (fun o => (∃ k m, k < A ∧ m < A ∧ k / 8 < m / 8 ∧ p2 z t d k m = true ∧ (∀ i j, i < A → j < A → i / 8 < j / 8 → (i < k ∨ i = k ∧ j < m) → p2 z t d i j = false) ∧ ∃ g, o = some (2, sm_wI (wf T 69 g) 52 2 (nI (tA k + 100 + 100 * tA m)))) ∨ ((∀ i j, i < A → j < A → i / 8 < j / 8 → p2 z t d i j = false) ∧ ∃ g, o = some (-9, wf T 69 g))) (f := F) (a := wf T 69 g0) (by omega) ⟨fun j hj => by omega, g0, hg0, rfl⟩ (fun f a ha => ?_) (fun f i a hi ha => ?_)
  · obtain ⟨hp, g, hg, rfl⟩ := ha
    refine Or.inr ⟨fun i j hi hj hij => ?_, g, ?_⟩
    · have := hp (i * A + j) (hlt i j hi hj)
      rw [(hdv i j hj).1, (hdv i j hj).2] at this
      exact this hij
    · change x8_brought_156 F (f + 1) (nI t) (nI d) (nI (z_ho z)) (nI (A * A)) (wf T 69 g) = _
      rw [x8_brought_156, tk_m8, show nI (8 * z_ho z) * 8 = nI (8 * z_ho z * 8) from pk_mul _ 8, pk_mul, hM, if_pos (nI_le (by omega) (by omega))]
  · obtain ⟨hp, g, hg, rfl⟩ := ha
    have hA0 : 0 < A := by
      rcases Nat.eq_zero_or_pos A with q | q
      · rw [q] at hi
        omega
      · exact q
    have k1 : i / A < A := Nat.div_lt_of_lt_mul hi
    have k2 : i % A < A := Nat.mod_lt _ hA0
    have hn0 : 0 < z_ho z := by omega
    have a1 : i / (64 * z_ho z) = i / A / 8 := by
      rw [Nat.div_div_eq_div_mul, ← hA]
      congr 1
      omega
    have a2 : i / 8 % z_ho z = i % A / 8 := by rw [← hA, Nat.mod_mul_right_div_self]
    have a3 : i % 8 = i % A % 8 := by rw [← hA, Nat.mod_mul_right_mod]
    have hlex : ∀ x y, x < A → y < A → x / 8 < y / 8 → (x < i / A ∨ x = i / A ∧ y < i % A) → p2 z t d x y = false := by
      intro x y hx hy hxy hq
      have e1 : A * (i / A) + i % A = i := Nat.div_add_mod i A
      have : x * A + y < i := by
        rcases hq with hq | ⟨rfl, hq⟩
        · have : (x + 1) * A ≤ (i / A) * A := Nat.mul_le_mul_right _ hq
          rw [Nat.succ_mul] at this
          rw [Nat.mul_comm A] at e1
          omega
        · rw [Nat.mul_comm A] at e1
          omega
      have h3 := hp (x * A + y) this
      rw [(hdv x y hy).1, (hdv x y hy).2] at h3
      exact h3 hxy
    have nx : ((i / A) / 8 < (i % A) / 8 → p2 z t d (i / A) (i % A) = false) → ∀ j, j < i + 1 → (j / A) / 8 < (j % A) / 8 → p2 z t d (j / A) (j % A) = false := fun q j hj hj2 => by
      by_cases q1 : j = i
      · rw [q1] at hj2 ⊢
        exact q hj2
      · exact hp j (by omega) hj2
    have c1 := hz.2.2.1.2.2.1 (i / A / 8)
    have c2 := hz.2.2.1.2.2.1 (i % A / 8)
    have e0 : x8_brought_156 F (f + 1) (nI t) (nI d) (nI (z_ho z)) (nI i) (wf T 69 g) = if nI (i % A / 8) ≤ nI (i / A / 8) then x8_brought_156 F f (nI t) (nI d) (nI (z_ho z)) (nI (i + 1)) (wf T 69 g) else sm_cI (x8_courseOf F (nI (i / A / 8)) (wf T 69 g)) fun v8 S => if nI (i / A % 8) = v8 then x8_brought_156 F f (nI t) (nI d) (nI (z_ho z)) (nI (i + 1)) S else sm_cI (x8_courseOf F (nI (i % A / 8)) S) fun v9 S => if nI (i % A % 8) = v9 then x8_brought_156 F f (nI t) (nI d) (nI (z_ho z)) (nI (i + 1)) S else sm_wr S 69 6 (nI (i / A / 8)) (nI (i / A % 8)) fun S => sm_wr S 69 6 (nI (i % A / 8)) (nI (i % A % 8)) fun S => sm_cI (x8_comesIn F (nI t) (nI d) S) fun v10 S => sm_cI (x8_courseOf F (nI (i / A / 8)) S) fun v11 S => sm_wr S 69 6 (nI (i / A / 8)) v11 fun S => sm_cI (x8_courseOf F (nI (i % A / 8)) S) fun v12 S => sm_wr S 69 6 (nI (i % A / 8)) v12 fun S => if v10 = 0 then x8_brought_156 F f (nI t) (nI d) (nI (z_ho z)) (nI (i + 1)) S else x8_brought_293 F (nI (i / A / 8)) (nI (i / A % 8)) (nI (i % A / 8)) (nI (i % A % 8)) S := by
      rw [x8_brought_156, tk_m8, show nI (8 * z_ho z) * 8 = nI (8 * z_ho z * 8) from pk_mul _ 8, pk_mul, hM, hA, if_neg (nI_ge hi (by omega)), show (64 : Int32) * nI (z_ho z) = nI (64 * z_ho z) from pk_mul 64 _, if_neg (nI_ne0 (by omega) (by omega)), tt_n, if_neg (nI_ne0 (by omega) (by omega)), tt_n, if_neg (nI_ne0 (by omega) (by omega)), tt_n, tt_n, pk_div (by omega) (by omega) (by omega), pk_div (by omega) (by omega) (by omega), show nI i / 8 = nI (i / 8) from pk_div (d := 8) (by omega) (by omega) (by omega), show sm_ir (nI i) 8 = nI (i % 8) from pk_rem (d := 8) (by omega) (by omega) (by omega), show sm_ir (nI (i / 8)) (nI (z_ho z)) = nI (i / 8 % z_ho z) from pk_rem (by omega) (by omega) (by omega), show sm_ir (nI (i / A)) 8 = nI (i / A % 8) from pk_rem (d := 8) (by omega) (by omega) (by omega), a1, a2, a3, nI_1]
    by_cases q0 : i % A / 8 ≤ i / A / 8
    · refine Or.inr ⟨wf T 69 g, ?_, nx (fun q => by omega), g, hg, rfl⟩
      rw [e0, if_pos (nI_le q0 (by omega))]
    · rw [if_neg (nI_ge (by omega) (by omega)), k_courseOf hz (mk_68 h) (by omega), tt_cI] at e0
      have hc1 := c1 (by omega)
      have hc2 := c2 (by omega)
      by_cases q1 : i / A % 8 = z_co z (i / A / 8)
      · refine Or.inr ⟨wf T 69 g, ?_, nx (fun q => ?_), g, hg, rfl⟩
        · rw [e0, if_pos (by rw [q1])]
        · cases hq : p2 z t d (i / A) (i % A) with
          | false => rfl
          | true =>
            have := p2_1 q1 hq q
            rw [hno _ k2] at this
            cases this
      · rw [if_neg (fun p => q1 ((nI_eq (by omega) (by omega)).mp p)), k_courseOf hz (mk_68 h) (by omega), tt_cI] at e0
        by_cases q2 : i % A % 8 = z_co z (i % A / 8)
        · refine Or.inr ⟨wf T 69 g, ?_, nx (fun q => ?_), g, hg, rfl⟩
          · rw [e0, if_pos (by rw [q2])]
          · cases hq : p2 z t d (i / A) (i % A) with
            | false => rfl
            | true =>
              have := p2_2 q2 hq
              rw [hno _ k1] at this
              cases this
        · have hg1 : ∀ k, k < z_ho z → (wf T 69 (upd (upd g (i / A / 8) (nI (i / A % 8))) (i % A / 8) (nI (i % A % 8)))).1 69 k = nI (cg z (some (i / A)) (some (i % A)) k) := by
            intro k hk
            rw [wf_s]
            show _ = nI (if (i / A) / 8 = k then (i / A) % 8 else if (i % A) / 8 = k then (i % A) % 8 else z_co z k)
            by_cases p : k = i % A / 8
            · rw [p, pk_us, if_neg (by omega), if_pos rfl]
            · rw [pk_un p]
              by_cases p1 : k = i / A / 8
              · rw [p1, pk_us, if_pos rfl]
              · rw [pk_un p1, if_neg (fun q => p1 q.symm), if_neg (fun q => p q.symm)]
                exact hg k hk
          have e := m_cmi (F := F) (g := cg z (some (i / A)) (some (i % A))) hF hz (mk_68 (g := upd (upd g (i / A / 8) (nI (i / A % 8))) (i % A / 8) (nI (i % A % 8))) h) ht hd (fun k hk => cg_lt hz hk) hg1
          rw [if_neg (fun p => q2 ((nI_eq (by omega) (by omega)).mp p)), tt_wr (by omega) (by omega), wI_f, wf_wf, wf_s, tt_wr (by omega) (by omega), wI_f, wf_wf, wf_s, e, tt_cI, k_courseOf hz (mk_68 h) (by omega), tt_cI, tt_wr (by omega) (by omega), wI_f, wf_wf, wf_s, k_courseOf hz (mk_68 h) (by omega), tt_cI, tt_wr (by omega) (by omega), wI_f, wf_wf, wf_s] at e0
          generalize hG : upd (upd (upd (upd g (i / A / 8) (nI (i / A % 8))) (i % A / 8) (nI (i % A % 8))) (i / A / 8) (nI (z_co z (i / A / 8)))) (i % A / 8) (nI (z_co z (i % A / 8))) = G at e0
          have hG1 : ∀ k, k < z_ho z → G k = nI (z_co z k) := by
            intro k hk
            rw [← hG]
            by_cases p : k = i % A / 8
            · rw [p, pk_us]
            · rw [pk_un p]
              by_cases p1 : k = i / A / 8
              · rw [p1, pk_us]
              · rw [pk_un p1, pk_un p, pk_un p1]
                exact hg k hk
          change x8_brought_156 F (f + 1) (nI t) (nI d) (nI (z_ho z)) (nI i) (wf T 69 g) = if nI (zi (p2 z t d (i / A) (i % A))) = 0 then _ else _ at e0
          cases hq : p2 z t d (i / A) (i % A) with
          | false =>
            refine Or.inr ⟨wf T 69 G, ?_, nx (fun _ => hq), G, hG1, rfl⟩
            rw [e0, hq, if_pos (zi_0 rfl)]
          | true =>
            refine Or.inl (Or.inl ⟨i / A, i % A, k1, k2, by omega, hq, hlex, G, ?_⟩)
            rw [e0, hq, if_neg (zi_1 rfl)]
            unfold x8_brought_293 tA
            rw [x_ak2, tt_cI, tk_m10, tk_m10, tk_a1, nI_add, nI_add, tk_m100, nI_add, show 10 * (i / A / 8) + i / A % 8 + 100 * (1 + 10 * (i % A / 8) + i % A % 8) = i / A / 8 * 10 + i / A % 8 + 100 + 100 * (i % A / 8 * 10 + i % A % 8) by omega]
theorem bt_ak68 {z : zz} {J K S T : sm_t} (hz : zw z) (hx : xi z J S) (hm : mi z K T) {g : Nat → Int32} (u v : Int32) : bt J K (some (v, sm_wI S 3 11 u)) (some (v, sm_wI (wf T 69 g) 52 2 u)) := bt_ak hz hx (mi_68 hm) u v
theorem q_brought {z : zz} {J K S T : sm_t} (hz : zw z) (hx : xi z J S) (hm : mi z K T) {F : Nat} (hF : 100000 < F) (t d : Int32) : bt J K (x7_brought F t d S) (x8_brought F t d T) := by
  have hh := hz.2.2.1.2.1
  unfold x7_brought x8_brought
  rcases tt_below t 120 (by omega) with ⟨t, ht, rfl⟩ | h
  · rw [x_cell1 ht, m_cell1 ht, tt_cI, tt_cI, if_neg n10, if_neg n10]
    rcases tt_below d 6 (by omega) with ⟨d, hd, rfl⟩ | h
    · have hk := xk_of hx
      have hj := mk_of hm
      have e1 : x3_comesIn F (nI t) (nI d) (-9) (-9) S = some (nI (zi (zch z t d (z_co z) (z_ho z))), S) := x_cmi (a := none) (b := none) hF hz hk ht hd (fun k hk => by cases hk) (fun k hk => by cases hk) (fun q => rfl)
      obtain ⟨g, hg, e2⟩ := m_b20 (t := t) (d := d) hF hz hj
      have e3 := m_cmi (F := F) (g := z_co z) hF hz (mk_68 (g := g) hj) ht hd (fun k hk => hz.2.2.1.2.2.1 k hk) (fun k hk => by rw [wf_s]; exact hg k hk)
      rw [show x7_isWithin F (nI d) 5 S = some (1, S) from x_wi1 (b := 5) (by omega) (by omega), show x8_in F (nI d) 0 5 T = some (1, T) from m_in1 (b := 5) (by omega) (by omega), tt_cI, tt_cI, if_neg n10, if_neg n10, e1, tt_cI, e2]
      unfold x8_brought_45
      rw [e3, tt_cI]
      cases q : zch z t d (z_co z) (z_ho z) with
      | true =>
        rw [if_neg (zi_1 rfl), if_neg (zi_1 rfl), tt_n, x_ak2, tt_cI]
        exact bt_ak68 hz hx hm _ _
      | false =>
        rw [if_pos (zi_0 rfl), if_pos (zi_0 rfl), k_hours (mk_68 hj), tt_cI]
        rcases x_first hF hz hk ht hd with ⟨k, a1, a2, a3, a4⟩ | ⟨a3, a4⟩
        · rcases m_first hF hz hj ht hd hg q with ⟨k', b1, b2, b3, g1, b4⟩ | ⟨b3, -⟩
          · have : k = k' := by
              rcases Nat.lt_trichotomy k k' with q1 | q1 | q1
              · have := b3 k q1
                rw [a2] at this
                cases this
              · exact q1
              · have := a3 k' q1
                rw [b2] at this
                cases this
            subst this
            rw [a4, b4, tt_cI, if_neg (ne_9 (by unfold tA; omega)), tt_n]
            exact bt_ak68 hz hx hm _ _
          · have := b3 k a1
            rw [a2] at this
            cases this
        · rcases m_first hF hz hj ht hd hg q with ⟨k', b1, b2, b3, g1, b4⟩ | ⟨b3, g1, b4, b5⟩
          · have := a3 k' b1
            rw [b2] at this
            cases this
          · rw [a4, tt_cI, if_pos rfl, b5]
            rcases x_second hF hz hk ht hd with ⟨k, m, c1, c2, c3, c4, c5, c6⟩ | ⟨c5, c6⟩
            · rcases m_second hF hz hj ht hd b4 b3 with ⟨k', m', d1, d2, d3, d4, d5, g2, d6⟩ | ⟨d5, -⟩
              · have : k = k' ∧ m = m' := by
                  rcases Nat.lt_trichotomy k k' with q1 | q1 | q1
                  · have := d5 k m c1 c2 c3 (Or.inl q1)
                    rw [c4] at this
                    cases this
                  · subst q1
                    rcases Nat.lt_trichotomy m m' with q2 | q2 | q2
                    · have := d5 k m c1 c2 c3 (Or.inr ⟨rfl, q2⟩)
                      rw [c4] at this
                      cases this
                    · exact ⟨rfl, q2⟩
                    · have := c5 k m' d1 d2 d3 (Or.inr ⟨rfl, q2⟩)
                      rw [d4] at this
                      cases this
                  · have := c5 k' m' d1 d2 d3 (Or.inl q1)
                    rw [d4] at this
                    cases this
                obtain ⟨rfl, rfl⟩ := this
                rw [c6, d6, tt_cI, if_neg (ne_9 (by unfold tA; omega)), tt_n]
                exact bt_ak68 hz hx hm _ _
              · have := d5 k m c1 c2 c3
                rw [c4] at this
                cases this
            · rcases m_second hF hz hj ht hd b4 b3 with ⟨k', m', d1, d2, d3, d4, d5, g2, d6⟩ | ⟨d5, g2, d6⟩
              · have := c5 k' m' d1 d2 d3
                rw [d4] at this
                cases this
              · rw [c6, d6, tt_cI, if_pos rfl]
                exact bt_same hz hx (mi_68 hm) (-9)
    · rw [show x7_isWithin F d 5 S = some (0, S) from x_wiN (b := 5) (by omega) (by omega), show x8_in F d 0 5 T = some (0, T) from m_inN (b := 5) (by omega) (by omega)]
      exact bt_same hz hx hm (-1)
  · rw [x_cell0 h, m_cell0 h]
    exact bt_same hz hx hm (-1)
