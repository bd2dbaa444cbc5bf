/-! ===== where, most, sure, ended, truly ===== -/
theorem x_st1 {F k : Nat} {S : sm_t} (h : k < 4) : x7_isStory F (nI k) S = some (1, S) := by
  unfold x7_isStory
  rw [if_neg (nI_pos (by omega)), if_neg (show ¬ (3 : Int32) < nI k from nI_nlt (a := 3) (by omega) (by omega))]
theorem x_st0 {F : Nat} {x : Int32} {S : sm_t} (h : x.toInt < 0 ∨ 4 ≤ x.toInt) : x7_isStory F x S = some (0, S) := by
  unfold x7_isStory
  by_cases h1 : x < 0
  · rw [if_pos h1]
  · rw [if_neg h1, if_pos]
    rw [tt_lt] at h1 ⊢
    simp only [Int32.reduceToInt] at h1 ⊢
    omega
theorem m_st1 {F k : Nat} {S : sm_t} (h : k < 4) : x8_in F (nI k) 0 3 S = some (1, S) := m_in1 (b := 3) (by omega) (by omega)
theorem m_st0 {F : Nat} {x : Int32} {S : sm_t} (h : x.toInt < 0 ∨ 4 ≤ x.toInt) : x8_in F x 0 3 S = some (0, S) := m_inN (b := 3) (by omega) (by omega)
theorem b_ms {z : zz} {J K S T : sm_t} (hz : zw z) (hx : xi z J S) (hm : mi z K T) {F k : Nat} (hk : k < 4) : (x7_isMissing F (nI k) S = some (1, S) ∧ x8_askedStory F (nI k) T = some (-3, mfd T 1)) ∨ ((k ≠ 0 → (z_st z k).isSome = true) ∧ x7_isMissing F (nI k) S = some (0, S) ∧ x8_askedStory F (nI k) T = some (0, T)) := by
  unfold x7_isMissing x8_askedStory
  rw [m_st1 hk, tt_cI, if_neg n10]
  by_cases q : k = 0
  · rw [q]
    exact Or.inr ⟨fun x => absurd rfl x, rfl, rfl⟩
  · obtain ⟨k, rfl⟩ : ∃ m, k = m + 1 := ⟨k - 1, by omega⟩
    have e1 := (hx.2.2.2.2.2.2.1 k (by omega)).1
    have e2 := (hm.2.2.2.2.2.2.1.2 k (by omega)).1
    rw [if_neg (nI_nle (by omega) (by omega)), if_neg (show ¬ (3 : Int32) < nI (k + 1) from nI_nlt (a := 3) (by omega) (by omega)), nI_pred, tt_r _ e1 (by omega) (by omega), if_neg (nI_nle (by omega) (by omega)), tt_r _ e2 (by omega) (by omega), m_f1, tt_cI]
    cases h : (z_st z (k + 1)).isSome with
    | false =>
      rw [if_pos (z_b1.mpr h), if_pos (z_b1.mpr h)]
      exact Or.inl ⟨rfl, rfl⟩
    | true =>
      have : ¬ z_b (z_st z (k + 1)) = 0 := fun p => by
        have := z_b1.mp p
        rw [h] at this
        cases this
      rw [if_neg this, if_neg this]
      exact Or.inr ⟨fun _ => rfl, rfl, rfl⟩
theorem zC_b {z : zz} {o : Int32} (hz : zw z) (h : zbusy z ≤ 6) : ∀ k, k ≤ z_ho z → ∀ c, c < 120 → zC z o k c < 2 ^ 63 := fun k hk c hc => by
  have h1 := zC_le (o := o) hz hk hc
  have h2 := Nat.mul_le_mul_left 4096 (zV_le (o := o) h)
  omega
def mW (z : zz) (k : Nat) (o : Int32) (T1 : sm_t) : Prop := (∀ c, c < 120 → T1.2.1 66 c = lN (zw_ z k o c)) ∧ T1.2.1 52 23 = lN (za_ z k o) ∧ (k = 0 → ∀ h, h ≤ z_ho z → ∀ c, c < 120 → T1.2.1 64 (120 * h + c) = lN (zC z o h c))
theorem m_end {F k : Nat} {z : zz} {K T : sm_t} (hF : 1000 < F) (hz : zw z) (hm : mi z K T) (hb : zbusy z ≤ 6) (hk : k < 4) (hst : k ≠ 0 → (z_st z k).isSome = true) : ∃ T1, x8_setEnding F (nI k) T = some T1 ∧ mi z K T1 ∧ mW z k (-9) T1 := by
  obtain ⟨T1, e, i1, i2, i3, i4, i5, i6, i7⟩ := m_ending (o := -9) hF hz (mk_of hm) hm.2.2.2.2.2.2.2.2.2 hk hst (zC_b hz hb)
  refine ⟨T1, e, mc_sc hm (fun b _ => by rw [i1]) ⟨by rw [i1], by rw [i1], by rw [i1], by rw [i1]⟩ (fun b hb => i6 b (by omega) (by omega) (by omega)) ⟨i5 3 (by omega), i5 4 (by omega)⟩ i2, i3, i4, i7⟩
theorem m_lo {F k e : Nat} {z : zz} {K T : sm_t} (hF : 1000 < F) (hz : zw z) (hm : mi z K T) (hb : zbusy z ≤ 6) (hk : k < 4) (hst : k ≠ 0 → (z_st z k).isSome = true) : ∃ T1, x8_setEnding F (nI k) (sm_wI T 52 19 (nI e)) = some T1 ∧ mi z K (sm_wI T1 52 19 (-9)) ∧ (∀ c, c < 120 → T1.2.1 66 c = lN (zw_ z k (nI e) c)) ∧ T1.2.1 52 23 = lN (za_ z k (nI e)) := by
  have hk' : mk z (sm_wI T 52 19 (nI e)).1 := mk_cg (mk_of hm) (fun b hb => tt_1 (by omega)) (by rw [tt_1s, if_neg (by omega)])
  obtain ⟨T1, e, i1, i2, i3, i4, i5, i6, i7⟩ := m_ending (o := nI e) hF hz hk' (by rw [tt_1s, if_pos rfl]) hk hst (zC_b hz hb)
  refine ⟨T1, e, mc_sc hm (fun b hb => ?_) ⟨?_, ?_, ?_, ?_⟩ (fun b hb => i6 b (by omega) (by omega) (by omega)) ⟨i5 3 (by omega), i5 4 (by omega)⟩ i2, i3, i4⟩
  · rw [tt_1 (by omega), i1, tt_1 (by omega)]
  · rw [tt_1s, if_neg (by omega), i1, tt_1s, if_neg (by omega)]
  · rw [tt_1s, if_neg (by omega), i1, tt_1s, if_neg (by omega)]
  · rw [tt_1s, if_neg (by omega), i1, tt_1s, if_neg (by omega)]
  · rw [tt_1s, if_pos rfl]
    exact hm.2.2.2.2.2.2.2.2.2.symm
/-- refused before weighing, or not -/
theorem b_bar {z : zz} {J K S T : sm_t} (hz : zw z) (hx : xi z J S) (hm : mi z K T) {F k m : Nat} (hF : 1000 < F) (hk : k < 4) (hm12 : m < 1000) : (∃ v z1 S1 T1, ¬ v = 0 ∧ x7_barred F (nI k) (nI m) S = some (v, S1) ∧ zw z1 ∧ xi z1 J S1 ∧ mi z1 K T1 ∧ ((¬ 0 ≤ v ∧ x8_askedStory F (nI k) T = some (v, T1)) ∨ (v = -6 ∧ x8_askedStory F (nI k) T = some (0, T) ∧ T1 = T ∧ x8_counted F T = some (nI (zbusy z), T) ∧ ¬ nI (zbusy z) ≤ nI m))) ∨ ((k ≠ 0 → (z_st z k).isSome = true) ∧ zbusy z ≤ m ∧ x7_barred F (nI k) (nI m) S = some (0, S) ∧ x8_askedStory F (nI k) T = some (0, T) ∧ x8_counted F T = some (nI (zbusy z), T) ∧ nI (zbusy z) ≤ nI m) := by
  have hn := hz.2.2.2.2.1
  have hb := zbusy_le (z := z)
  unfold x7_barred
  rcases b_ms (F := F) hz hx hm hk with ⟨e1, e2⟩ | ⟨hst, e1, e2⟩
  · left
    refine ⟨-3, zq_fd z 1, xfd S 1, mfd T 1, by decide, ?_, zw_fd hz, xi_fd hz hx (by omega), mi_fd hm (by omega), Or.inl ⟨by decide, e2⟩⟩
    rw [e1, tt_cI, if_neg n10, x_f1, tt_cI]
  · rw [e1, tt_cI, if_pos p00, x_busy hF hz (xk_of hx), tt_cI]
    have eb := m_busy hF hz (mk_of hm) hm.2.2.2.2.2.2.2.2.2
    by_cases q : zbusy z ≤ m
    · have q1 : nI (zbusy z) ≤ nI m := nI_le q (by omega)
      rw [if_pos q1]
      exact Or.inr ⟨hst, q, rfl, e2, eb, q1⟩
    · have q1 : ¬ nI (zbusy z) ≤ nI m := nI_ge (by omega) (by omega)
      rw [if_neg q1]
      exact Or.inl ⟨-6, z, S, T, by decide, rfl, hz, hx, hm, Or.inr ⟨rfl, e2, rfl, eb, q1⟩⟩
theorem l_le {b : Nat} (hb2 : b < 2 ^ 63) : (lN b ≤ 0 ↔ b = 0) := by
  have := pk_lLE (b := 0) hb2 (by omega)
  rw [lN_0] at this
  rw [this]
  omega
theorem l_eq {b : Nat} (hb2 : b < 2 ^ 63) : (lN b = 0 ↔ b = 0) := by
  have := pk_lEQ (b := 0) hb2 (by omega)
  rw [lN_0] at this
  exact this
theorem b_weigh {z : zz} {J K S T : sm_t} (hz : zw z) (hx : xi z J S) (hm : mi z K T) {F k : Nat} (hF : 1000 < F) (hk : k < 4) : (∃ v z1 S1 T1, ¬ v = 0 ∧ ¬ 0 ≤ v ∧ x7_weighed F (nI k) S = some (v, S1) ∧ x8_weigh F (nI k) T = some (v, T1) ∧ zw z1 ∧ xi z1 J S1 ∧ mi z1 K T1) ∨ (∃ S1 T1, x7_weighed F (nI k) S = some (0, S1) ∧ x8_weigh F (nI k) T = some (0, T1) ∧ xi z J S1 ∧ mi z K T1 ∧ xW z k (-9) S1 ∧ mW z k (-9) T1 ∧ 0 < za_ z k (-9) ∧ za_ z k (-9) ≤ 258048 * 12 ^ 6 ∧ (k ≠ 0 → (z_st z k).isSome = true) ∧ zbusy z ≤ 6) := by
  unfold x7_weighed x8_weigh
  rcases b_bar (F := F) (m := 6) hz hx hm hF hk (by omega) with ⟨v, z1, S1, T1, v0, e1, a1, a2, a3, ⟨b1, b2⟩ | ⟨rfl, b2, rfl, b3, b4⟩⟩ | ⟨hst, hb, e1, e2, e3, e4⟩
  · refine Or.inl ⟨v, z1, S1, T1, v0, b1, ?_, ?_, a1, a2, a3⟩
    · rw [show x7_barred F (nI k) 6 S = _ from e1, tt_cI, if_neg v0]
    · rw [b2, tt_cI, if_neg b1]
  · refine Or.inl ⟨-6, z1, S1, T1, v0, by decide, ?_, ?_, a1, a2, a3⟩
    · rw [show x7_barred F (nI k) 6 S = _ from e1, tt_cI, if_neg v0]
    · rw [b2, tt_cI, if_pos (show (0 : Int32) ≤ 0 by decide), b3, tt_cI, if_neg (show ¬ nI (zbusy z) ≤ 6 from b4)]
  · obtain ⟨S1, f1, f2, f3⟩ := x_weigh (o := -9) hF hz hx hk hst
    obtain ⟨T1, g1, g2, g3⟩ := m_end hF hz hm hb hk hst
    have hz6 := za_le (k := k) (o := -9) hz hb
    rw [show x7_barred F (nI k) 6 S = _ from e1, tt_cI, if_pos p00, f1, tt_cL, e2, tt_cI, if_pos (show (0 : Int32) ≤ 0 by decide), e3, tt_cI, if_pos (show nI (zbusy z) ≤ 6 from e4), g1, tt_cV, tt_n, g3.2.1]
    by_cases q : za_ z k (-9) = 0
    · rw [if_pos ((l_le (by omega)).mpr q), if_pos ((l_eq (by omega)).mpr q), x_f4, m_f4, tt_cI, tt_cI]
      exact Or.inl ⟨-3, zq_fd z 4, _, _, by decide, by decide, rfl, rfl, zw_fd hz, xi_fd hz f2 (by omega), mi_fd g2 (by omega)⟩
    · rw [if_neg (fun p => q ((l_le (by omega)).mp p)), if_neg (fun p => q ((l_eq (by omega)).mp p))]
      exact Or.inr ⟨S1, T1, rfl, rfl, f2, g2, f3, g3, by omega, hz6, hst, hb⟩
theorem m_wk0 {F : Nat} {x : Int32} {S : sm_t} (h : x.toInt < 0 ∨ 4 ≤ x.toInt) : x8_weigh F x S = some (-1, S) := by
  unfold x8_weigh x8_askedStory
  rw [m_st0 h]
  rfl
theorem q_where {z : zz} {J K S T : sm_t} (hz : zw z) (hx : xi z J S) (hm : mi z K T) {F : Nat} (hF : 1000 < F) (k c : Int32) : bt J K (x7_where F k c S) (x8_where F k c T) := by
  unfold x7_where x8_where
  rcases tt_below c 120 (by omega) with ⟨c, hc, rfl⟩ | h
  · rcases tt_below k 4 (by omega) with ⟨k, hk, rfl⟩ | h
    · rw [x_st1 hk, tt_cI, if_neg n10, x_cell1 hc, tt_cI, if_neg n10, m_cell1 hc, tt_cI, if_neg n10]
      rcases b_weigh (F := F) hz hx hm hF hk with ⟨v, z1, S1, T1, v0, v1, e1, e2, a1, a2, a3⟩ | ⟨S1, T1, e1, e2, a1, a2, a3, a4, a5, a6, -, -⟩
      · rw [e1, e2, tt_cI, tt_cI, if_neg v0, if_neg v1]
        exact bt_same a1 a2 a3 _
      · have hl := zw_le (z := z) (k := k) (o := -9) hc
        obtain ⟨u, l, f1, f2⟩ := b_fr (ans := 1) (S := S1) (T := T1) hF (show zw_ z k (-9) c < 2 ^ 63 by omega) a5 (by omega)
        rw [e1, e2, tt_cI, tt_cI, if_pos p00, if_pos (show (0 : Int32) ≤ 0 by decide), tt_r _ (a3.1 c hc) hc (by omega), tt_n, a3.2.1, f1, tt_cV, tt_r _ (a4.1 c hc) hc (by omega), tt_n, a4.2.1, f2, tt_cI]
        exact bt_F hz a1 a2 _ _ _
    · rw [x_st0 h, m_cell1 hc, tt_cI, tt_cI, if_pos p00, if_neg n10, m_wk0 h]
      exact bt_same hz hx hm (-1)
  · rw [m_cell0 h, tt_cI, if_pos p00]
    have b := bt_same hz hx hm (-1)
    rcases tt_below k 4 (by omega) with ⟨k, hk, rfl⟩ | h2
    · rw [x_st1 hk, tt_cI, if_neg n10, x_cell0 h, tt_cI, if_pos p00]
      exact b
    · rw [x_st0 h2, tt_cI, if_pos p00]
      exact b
/-! the greatest -/
def bg (f : Nat → Int64) : Nat → Nat
  | 0 => 0
  | i + 1 => if f (i + 1) ≤ f (bg f i) then bg f i else i + 1
theorem bg_le {f : Nat → Int64} : ∀ i, bg f i ≤ i := by
  intro i
  induction i with
  | zero => exact Nat.le_refl 0
  | succ i ih =>
    show (if f (i + 1) ≤ f (bg f i) then bg f i else i + 1) ≤ i + 1
    split <;> omega
theorem x_gr {F : Nat} {f : Nat → Int64} {S : sm_t} (hF : 1000 < F) (h : ∀ c, c < 120 → S.2.1 40 c = f c) : x2_greatest F S = some (nI (bg f 119), S) := by
  unfold x2_greatest
  refine lpi (fun m (a : Int32) i => x2_greatest_4 F m a i S) 120 1 (fun i a => 1 ≤ i ∧ a = nI (bg f (i - 1))) (fun r => r = some (nI (bg f 119), S)) (a := 0) (by omega) (by omega) ⟨Nat.le_refl 1, rfl⟩ (fun m a ha => ?_) (fun m i a hi ha => Or.inr ⟨nI (bg f i), ?_, by omega, rfl⟩)
  · change x2_greatest_4 F (m + 1) a 120 S = _
    rw [x2_greatest_4, if_pos (by decide), ha.2]
  · obtain ⟨i, rfl⟩ : ∃ j, i = j + 1 := ⟨i - 1, by omega⟩
    have hb := bg_le (f := f) i
    change x2_greatest_4 F (m + 1) a (nI (i + 1)) S = x2_greatest_4 F m (nI (if f (i + 1) ≤ f (bg f i) then bg f i else i + 1)) (nI (i + 1 + 1)) S
    rw [x2_greatest_4, if_neg (show ¬ (120 : Int32) ≤ nI (i + 1) from nI_ge (b := 120) hi (by omega)), tt_r _ (h (i + 1) hi) hi (by omega), ha.2, show i + 1 - 1 = i from rfl, tt_r _ (h (bg f i) (by omega)) (by omega) (by omega), nI_1]
    split <;> rfl
theorem m_gr {F : Nat} {f : Nat → Int64} {T : sm_t} (hF : 1000 < F) (h : ∀ c, c < 120 → T.2.1 66 c = f c) : x8_mostOf F T = some (nI (bg f 119), T) := by
  unfold x8_mostOf
  refine lpi (fun m (a : Int32) i => x8_mostOf_4 F m a i T) 120 1 (fun i a => 1 ≤ i ∧ a = nI (bg f (i - 1))) (fun r => r = some (nI (bg f 119), T)) (a := 0) (by omega) (by omega) ⟨Nat.le_refl 1, rfl⟩ (fun m a ha => ?_) (fun m i a hi ha => Or.inr ⟨nI (bg f i), ?_, by omega, rfl⟩)
  · change x8_mostOf_4 F (m + 1) a 120 T = _
    rw [x8_mostOf_4, if_pos (by decide), ha.2]
  · obtain ⟨i, rfl⟩ : ∃ j, i = j + 1 := ⟨i - 1, by omega⟩
    have hb := bg_le (f := f) i
    change x8_mostOf_4 F (m + 1) a (nI (i + 1)) T = x8_mostOf_4 F m (nI (if f (i + 1) ≤ f (bg f i) then bg f i else i + 1)) (nI (i + 1 + 1)) T
    rw [x8_mostOf_4, if_neg (show ¬ (120 : Int32) ≤ nI (i + 1) from nI_ge (b := 120) hi (by omega)), tt_r _ (h (i + 1) hi) hi (by omega), ha.2, show i + 1 - 1 = i from rfl, tt_r _ (h (bg f i) (by omega)) (by omega) (by omega), nI_1]
    split <;> rfl
theorem q_most {z : zz} {J K S T : sm_t} (hz : zw z) (hx : xi z J S) (hm : mi z K T) {F : Nat} (hF : 1000 < F) (k : Int32) : bt J K (x7_most F k S) (x8_most F k T) := by
  unfold x7_most x8_most
  rcases tt_below k 4 (by omega) with ⟨k, hk, rfl⟩ | h
  · rw [x_st1 hk, tt_cI, if_neg n10]
    rcases b_weigh (F := F) hz hx hm hF hk with ⟨v, z1, S1, T1, v0, v1, e1, e2, a1, a2, a3⟩ | ⟨S1, T1, e1, e2, a1, a2, a3, a4, a5, a6, -, -⟩
    · rw [e1, e2, tt_cI, tt_cI, if_neg v0, if_neg v1]
      exact bt_same a1 a2 a3 _
    · have hb := bg_le (f := fun c => lN (zw_ z k (-9) c)) 119
      have hl := zw_le (z := z) (k := k) (o := -9) (show bg (fun c => lN (zw_ z k (-9) c)) 119 < 120 by omega)
      obtain ⟨u, l, f1, f2⟩ := b_fr (ans := nI (bg (fun c => lN (zw_ z k (-9) c)) 119)) (S := S1) (T := T1) hF (show zw_ z k (-9) (bg (fun c => lN (zw_ z k (-9) c)) 119) < 2 ^ 63 by omega) a5 (by omega)
      rw [e1, e2, tt_cI, tt_cI, if_pos p00, if_pos (show (0 : Int32) ≤ 0 by decide), x_gr hF a3.1, tt_cI, tt_r _ (a3.1 _ (by omega)) (by omega) (by omega), tt_n, a3.2.1, f1, tt_cV, m_gr hF a4.1, tt_cI, tt_r _ (a4.1 _ (by omega)) (by omega) (by omega), tt_n, a4.2.1, m_gr hF a4.1, tt_cI, f2, tt_cI]
      exact bt_F hz a1 a2 _ _ _
  · rw [x_st0 h, m_wk0 h]
    exact bt_same hz hx hm (-1)
/-! sure -/
def sr (f : Nat → Int64) (A a b : Int64) : Nat → Int32 × Int32
  | 0 => (0, -9)
  | i + 1 => if f (119 - i) * b < A * a then sr f A a b i else ((sr f A a b i).1 + 1, nI (119 - i))
theorem sr_i : ∀ i, i < 120 → (119 : Int32) - nI i + (-1) = 119 - nI (i + 1) ∧ (119 : Int32) - nI i = nI (119 - i) := by decide +kernel
theorem x_sr {F : Nat} {f : Nat → Int64} {A : Int64} {l2 l3 : Int32} {S : sm_t} (hF : 1000 < F) (h : ∀ c, c < 120 → S.2.1 40 c = f c) (hA : S.2.1 18 5 = A) : x7_sure_51 F F l2 l3 0 (-9) 119 S = some ((sr f A l2.toInt64 l3.toInt64 120).1, sm_wI S 3 11 (sr f A l2.toInt64 l3.toInt64 120).2) := by
  refine lp0 (fun m (p : Int32 × Int32) i => x7_sure_51 F m l2 l3 p.1 p.2 (119 - i) S) 120 (fun i p => p = sr f A l2.toInt64 l3.toInt64 i) (fun r => r = some ((sr f A l2.toInt64 l3.toInt64 120).1, sm_wI S 3 11 (sr f A l2.toInt64 l3.toInt64 120).2)) (f := F) (a := (0, -9)) (by omega) rfl (fun m p hp => ?_) (fun m i p hi hp => Or.inr ⟨_, ?_, rfl⟩)
  · subst hp
    change x7_sure_51 F (m + 1) l2 l3 _ _ (119 - 120) S = _
    rw [x7_sure_51, if_pos (by decide), tt_n]
  · subst hp
    have e := sr_i i hi
    change x7_sure_51 F (m + 1) l2 l3 _ _ (119 - nI i) S = x7_sure_51 F m l2 l3 (if f (119 - i) * l3.toInt64 < A * l2.toInt64 then sr f A l2.toInt64 l3.toInt64 i else ((sr f A l2.toInt64 l3.toInt64 i).1 + 1, nI (119 - i))).1 (if f (119 - i) * l3.toInt64 < A * l2.toInt64 then sr f A l2.toInt64 l3.toInt64 i else ((sr f A l2.toInt64 l3.toInt64 i).1 + 1, nI (119 - i))).2 (119 - nI (i + 1)) S
    rw [x7_sure_51, e.1, e.2, if_neg (nI_pos (by omega)), tt_r _ (h (119 - i) (by omega)) (by omega) (by omega), tt_n, hA]
    split <;> rfl
theorem m_sr {F : Nat} {f : Nat → Int64} {A : Int64} {l2 l3 : Int32} {T : sm_t} (hF : 1000 < F) (h : ∀ c, c < 120 → T.2.1 66 c = f c) (hA : T.2.1 52 23 = A) : x8_sure_47 F F l2 l3 0 (-9) 119 T = some ((sr f A l2.toInt64 l3.toInt64 120).1, sm_wI T 52 2 (sr f A l2.toInt64 l3.toInt64 120).2) := by
  refine lp0 (fun m (p : Int32 × Int32) i => x8_sure_47 F m l2 l3 p.1 p.2 (119 - i) T) 120 (fun i p => p = sr f A l2.toInt64 l3.toInt64 i) (fun r => r = some ((sr f A l2.toInt64 l3.toInt64 120).1, sm_wI T 52 2 (sr f A l2.toInt64 l3.toInt64 120).2)) (f := F) (a := (0, -9)) (by omega) rfl (fun m p hp => ?_) (fun m i p hi hp => Or.inr ⟨_, ?_, rfl⟩)
  · subst hp
    change x8_sure_47 F (m + 1) l2 l3 _ _ (119 - 120) T = _
    rw [x8_sure_47, if_pos (by decide), x_ak2, tt_cI]
  · subst hp
    have e := sr_i i hi
    change x8_sure_47 F (m + 1) l2 l3 _ _ (119 - nI i) T = x8_sure_47 F m l2 l3 (if f (119 - i) * l3.toInt64 < A * l2.toInt64 then sr f A l2.toInt64 l3.toInt64 i else ((sr f A l2.toInt64 l3.toInt64 i).1 + 1, nI (119 - i))).1 (if f (119 - i) * l3.toInt64 < A * l2.toInt64 then sr f A l2.toInt64 l3.toInt64 i else ((sr f A l2.toInt64 l3.toInt64 i).1 + 1, nI (119 - i))).2 (119 - nI (i + 1)) T
    rw [x8_sure_47, e.1, e.2, if_neg (nI_pos (by omega)), tt_r _ (h (119 - i) (by omega)) (by omega) (by omega), tt_n, hA]
    split <;> rfl
theorem q_sure {z : zz} {J K S T : sm_t} (hz : zw z) (hx : xi z J S) (hm : mi z K T) {F : Nat} (hF : 1000 < F) (k a b : Int32) : bt J K (x7_sure F k a b S) (x8_sure F k a b T) := by
  unfold x7_sure x8_sure
  have bb := bt_same hz hx hm (-1)
  by_cases g : 1 ≤ a.toInt ∧ a.toInt ≤ b.toInt ∧ b.toInt ≤ 99
  · have e1 : x8_in F b 1 99 T = some (1, T) := by
      rw [m_in, if_neg (by rw [tt_lt]; simp only [Int32.reduceToInt]; omega), if_neg (by rw [tt_lt]; simp only [Int32.reduceToInt]; omega)]
    have e2 : x8_in F a 1 b T = some (1, T) := by
      rw [m_in, if_neg (by rw [tt_lt]; simp only [Int32.reduceToInt]; omega), if_neg (by rw [tt_lt]; omega)]
    rw [e1, tt_cI, if_neg n10, e2, tt_cI, if_neg n10]
    simp only [if_neg (show ¬ a < 1 by rw [tt_lt]; simp only [Int32.reduceToInt]; omega), if_neg (show ¬ 99 < b by rw [tt_lt]; simp only [Int32.reduceToInt]; omega), if_pos (show a ≤ b by rw [tt_le]; omega)]
    rcases tt_below k 4 (by omega) with ⟨k, hk, rfl⟩ | h
    · rw [x_st1 hk, tt_cI, if_neg n10]
      rcases b_weigh (F := F) hz hx hm hF hk with ⟨v, z1, S1, T1, v0, v1, e1, e2, a1, a2, a3⟩ | ⟨S1, T1, e1, e2, a1, a2, a3, a4, a5, a6, -, -⟩
      · rw [e1, e2, tt_cI, tt_cI, if_neg v0, if_neg v1]
        exact bt_same a1 a2 a3 _
      · rw [e1, e2, tt_cI, tt_cI, if_pos p00, if_pos (show (0 : Int32) ≤ 0 by decide), x_sr hF a3.1 a3.2.1, m_sr hF a4.1 a4.2.1]
        exact bt_ak hz a1 a2 _ _
    · rw [x_st0 h, tt_cI, if_pos p00, m_wk0 h]
      exact bb
  · have e8 : ∀ Kk : sm_t → Option (Int32 × sm_t), (sm_cI (x8_in F b 1 99 T) fun v1 S => if v1 = 0 then some (-1, S) else sm_cI (x8_in F a 1 b S) fun v2 S => if v2 = 0 then some (-1, S) else Kk S) = some (-1, T) := by
      intro Kk
      rw [m_in, tt_cI]
      by_cases q1 : b < 1
      · rw [if_pos q1, if_pos p00]
      · rw [if_neg q1]
        by_cases q2 : 99 < b
        · rw [if_pos q2, if_pos p00]
        · rw [if_neg q2, if_neg n10, m_in, tt_cI]
          by_cases q3 : a < 1
          · rw [if_pos q3, if_pos p00]
          · rw [if_neg q3, if_pos (show b < a by
              rw [tt_lt] at q1 q2 q3 ⊢
              simp only [Int32.reduceToInt] at q1 q2 q3
              omega), if_pos p00]
    rw [show (fun (v1 : Int32) (S : sm_t) => if v1 = 0 then some (-1, S) else sm_cI (x8_in F a 1 b S) fun v2 S => if v2 = 0 then some (-1, S) else sm_cI (x8_weigh F k S) fun v3 S => if 0 ≤ v3 then x8_sure_47 F F a b 0 (-9) 119 S else some (v3, S)) = (fun (v1 : Int32) (S : sm_t) => if v1 = 0 then some (-1, S) else sm_cI (x8_in F a 1 b S) fun v2 S => if v2 = 0 then some (-1, S) else (fun S => sm_cI (x8_weigh F k S) fun v3 S => if 0 ≤ v3 then x8_sure_47 F F a b 0 (-9) 119 S else some (v3, S)) S) from rfl, e8]
    rcases tt_below k 4 (by omega) with ⟨k, hk, rfl⟩ | h
    · rw [x_st1 hk, tt_cI, if_neg n10]
      by_cases q1 : a < 1
      · rw [if_pos q1]
        exact bb
      · rw [if_neg q1]
        by_cases q2 : 99 < b
        · rw [if_pos q2]
          exact bb
        · rw [if_neg q2, if_neg]
          · exact bb
          · rw [tt_lt] at q1 q2
            rw [tt_le]
            simp only [Int32.reduceToInt] at q1 q2
            omega
    · rw [x_st0 h, tt_cI, if_pos p00]
      exact bb
/-! ended -/
theorem m_e29 {F h : Nat} {z : zz} {K T : sm_t} (hF : 1000 < F) (hz : zw z) (hm : mi z K T) (hw : mW z 0 (-9) T) (hh : h < 7) : x8_ended_29 F F (nI h) 0 0 T = x8_ended_94 F (if h ≤ z_ho z then lN (zs (zL z (-9) (-9) 0 h) 120) else 0) T := by
  have h6 := hz.2.2.1.2.1
  by_cases q : h ≤ z_ho z
  · rw [if_pos q]
    refine lp0 (fun f (a : Int64) i => x8_ended_29 F f (nI h) a i T) 120 (fun i a => a = lN (zs (zL z (-9) (-9) 0 h) i)) (fun r => r = x8_ended_94 F (lN (zs (zL z (-9) (-9) 0 h) 120)) T) (f := F) (a := 0) (by omega) rfl (fun f a ha => ?_) (fun f i a hi ha => Or.inr ⟨_, ?_, rfl⟩)
    · change x8_ended_29 F (f + 1) (nI h) a 120 T = _
      rw [x8_ended_29, if_pos (by decide), ha]
    · change x8_ended_29 F (f + 1) (nI h) a (nI i) T = x8_ended_29 F f (nI h) (lN (zs (zL z (-9) (-9) 0 h) i + zL z (-9) (-9) 0 h i)) (nI (i + 1)) T
      have vs := hw.2.2 rfl h q i hi
      rw [x8_ended_29, if_neg (show ¬ (120 : Int32) ≤ nI i from nI_ge (b := 120) hi (by omega)), m_hours hm, tt_cI, if_neg (nI_nlt q (by omega)), tk_m120, nI_add, tt_r _ vs (by omega) (by omega), tt_r _ vs (by omega) (by omega), m_endW hF hz (mk_of hm) hm.2.2.2.2.2.2.2.2.2 q hi, tt_cL, tt_n, tt_n, ha, nI_1, zL_C (by omega), ← lN_add, ← lN_mul]
      by_cases q0 : lN (zC z (-9) h i) = 0
      · rw [if_pos q0, q0, Int64.zero_mul]
      · rw [if_neg q0]
  · rw [if_neg q]
    obtain ⟨f, hf⟩ : ∃ f, F = f + 1 := ⟨F - 1, by omega⟩
    have : ∀ f, x8_ended_29 F (f + 1) (nI h) 0 0 T = x8_ended_94 F 0 T := fun f => by
      rw [x8_ended_29, if_neg (by decide), m_hours hm, tt_cI, if_pos (nI_lt (by omega) (by omega))]
    have e := this f
    rw [← hf] at e
    exact e
theorem q_ended {z : zz} {J K S T : sm_t} (hz : zw z) (hx : xi z J S) (hm : mi z K T) {F : Nat} (hF : 1000 < F) (h : Int32) : bt J K (x7_ended F h S) (x8_ended F h T) := by
  unfold x7_ended x8_ended
  rcases tt_below h 7 (by omega) with ⟨h, hh, rfl⟩ | q
  · rw [show x7_isWithin F (nI h) 6 S = some (1, S) from x_wi1 (b := 6) (by omega) (by omega), show x8_in F (nI h) 0 6 T = some (1, T) from m_in1 (b := 6) (by omega) (by omega), tt_cI, tt_cI, if_neg n10, if_neg n10]
    rcases b_weigh (F := F) (k := 0) hz hx hm hF (by omega) with ⟨v, z1, S1, T1, v0, v1, e1, e2, a1, a2, a3⟩ | ⟨S1, T1, e1, e2, a1, a2, a3, a4, a5, a6, -, -⟩
    · rw [show x7_weighed F 0 S = _ from e1, show x8_weigh F 0 T = _ from e2, tt_cI, tt_cI, if_neg v0, if_neg v1]
      exact bt_same a1 a2 a3 _
    · have hl : ∃ n, (if h ≤ z_ho z then lN (zs (zL z (-9) (-9) 0 h) 120) else 0) = lN n ∧ n ≤ za_ z 0 (-9) := by
        by_cases q : h ≤ z_ho z
        · refine ⟨_, if_pos q, ?_⟩
          rw [za_0]
          exact zs_le1 (f := fun k => zs (zL z (-9) (-9) 0 k) 120) _ (by omega)
        · exact ⟨0, if_neg q, Nat.zero_le _⟩
      obtain ⟨n, hn, hl⟩ := hl
      obtain ⟨u, l, f1, f2⟩ := b_fr (ans := 1) (S := S1) (T := T1) hF (show n < 2 ^ 63 by omega) a5 (by omega)
      rw [show x7_weighed F 0 S = _ from e1, show x8_weigh F 0 T = _ from e2, tt_cI, tt_cI, if_pos p00, if_pos (show (0 : Int32) ≤ 0 by decide), tt_r _ (a3.2.2 rfl h hh) hh (by omega), tt_n, a3.2.1, hn, f1, tt_cV, m_e29 hF hz a2 a4 hh, hn]
      unfold x8_ended_94
      rw [tt_n, a4.2.1, f2, tt_cI]
      exact bt_F hz a1 a2 _ _ _
  · rw [show x7_isWithin F h 6 S = some (0, S) from x_wiN (b := 6) (by omega) (by omega), show x8_in F h 0 6 T = some (0, T) from m_inN (b := 6) (by omega) (by omega)]
    exact bt_same hz hx hm (-1)
