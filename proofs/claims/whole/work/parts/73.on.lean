/-! ===== on ===== -/
theorem x_sideB {F : Nat} {v : Int32} {S : sm_t} : x1_isSide F v S = some (nI (zi (decide (0 ≤ v.toInt ∧ v.toInt < 8))), S) := by
  rcases tt_side v with ⟨j, hj, rfl⟩ | h
  · rw [x_side1 hj, decide_eq_true (by rw [tt_nI (by omega)]; omega)]
    rfl
  · rw [x_side0 h, decide_eq_false (by omega)]
    rfl
theorem m_sideB {F : Nat} {v : Int32} {S : sm_t} : x8_isSide F v S = some (nI (zi (decide (0 ≤ v.toInt ∧ v.toInt < 8))), S) := by
  rcases tt_side v with ⟨j, hj, rfl⟩ | h
  · rw [m_side1 hj, decide_eq_true (by rw [tt_nI (by omega)]; omega)]
    rfl
  · rw [m_side0 h, decide_eq_false (by omega)]
    rfl
theorem x_in9 {F : Nat} {v : Int32} {S : sm_t} : x7_isWithin F v 9 S = some (nI (zi (decide (0 ≤ v.toInt ∧ v.toInt < 10))), S) := by
  rcases tt_below v 10 (by omega) with ⟨j, hj, rfl⟩ | h
  · rw [show x7_isWithin F (nI j) 9 S = some (1, S) from x_wi1 (b := 9) (by omega) (by omega), decide_eq_true (by rw [tt_nI (by omega)]; omega)]
    rfl
  · rw [show x7_isWithin F v 9 S = some (0, S) from x_wiN (b := 9) (by omega) (by omega), decide_eq_false (by omega)]
    rfl
theorem m_in9 {F : Nat} {v : Int32} {S : sm_t} : x8_in F v 0 9 S = some (nI (zi (decide (0 ≤ v.toInt ∧ v.toInt < 10))), S) := by
  rcases tt_below v 10 (by omega) with ⟨j, hj, rfl⟩ | h
  · rw [show x8_in F (nI j) 0 9 S = some (1, S) from m_in1 (b := 9) (by omega) (by omega), decide_eq_true (by rw [tt_nI (by omega)]; omega)]
    rfl
  · rw [show x8_in F v 0 9 S = some (0, S) from m_inN (b := 9) (by omega) (by omega), decide_eq_false (by omega)]
    rfl
def zall (p : Nat → Bool) : Nat → Bool
  | 0 => true
  | n + 1 => zall p n && p n
theorem zall_f {p : Nat → Bool} {i : Nat} (h : p i = false) : ∀ n, i < n → zall p n = false := by
  intro n
  induction n with
  | zero => intro q; omega
  | succ n ih =>
    intro q
    show (zall p n && p n) = false
    by_cases e : i = n
    · rw [← e, h, Bool.and_false]
    · rw [ih (by omega), Bool.false_and]
theorem zall_t {p : Nat → Bool} : ∀ n, zall p n = true → ∀ k, k < n → p k = true := by
  intro n h k hk
  cases q : p k with
  | true => rfl
  | false => rw [zall_f q n hk] at h; cases h
def pC (n : Nat) (w : Nat → Int32) (h : Nat) : Bool := if h < n then decide (0 ≤ (w (2 + h)).toInt ∧ (w (2 + h)).toInt < 8) else decide (w (2 + h) = -9)
def pD (n : Nat) (w : Nat → Int32) (h : Nat) : Bool := if h ≤ n then decide (0 ≤ (w (8 + h)).toInt ∧ (w (8 + h)).toInt < 10) else decide (w (8 + h) = -9)
def pE (n : Nat) (w : Nat → Int32) (h : Nat) : Nat := if h ≤ n then (w (8 + h)).toNatClampNeg else 0
theorem x_ct28 {F r n : Nat} {w : Nat → Int32} {S : sm_t} (hF : 1000 < F) (hr : r < 6) (hn : n < 7) (hw : ∀ k, k < 40 → S.1 (5 + r) k = w k) : x3_couldTell_28 F F (5 + r) (nI n) 0 S = if zall (pC n w) 6 = true then x3_couldTell_73 F F (5 + r) (nI n) 0 0 S else some (0, S) := by
  refine lp0 (fun f (_ : Unit) i => x3_couldTell_28 F f (5 + r) (nI n) i S) 6 (fun i _ => zall (pC n w) i = true) (fun o => o = if zall (pC n w) 6 = true then x3_couldTell_73 F F (5 + r) (nI n) 0 0 S else some (0, S)) (a := ()) (by omega) rfl (fun f _ ha => ?_) (fun f i _ hi ha => ?_)
  · change x3_couldTell_28 F (f + 1) (5 + r) (nI n) 6 S = _
    rw [x3_couldTell_28, if_pos (by decide), if_pos ha]
  · change x3_couldTell_28 F (f + 1) (5 + r) (nI n) (nI i) S = _ ∨ ∃ _ : Unit, x3_couldTell_28 F (f + 1) (5 + r) (nI n) (nI i) S = x3_couldTell_28 F f (5 + r) (nI n) (nI (i + 1)) S ∧ (zall (pC n w) i && pC n w i) = true
    rw [x3_couldTell_28, if_neg (show ¬ (6 : Int32) ≤ nI i from nI_ge (b := 6) hi (by omega)), tt_an (tt_sq_row r hr), tk_a2, tt_r _ (hw (2 + i) (by omega)) (by omega) (by omega), ha, Bool.true_and, nI_1]
    by_cases q : n ≤ i
    · have e : pC n w i = decide (w (2 + i) = -9) := if_neg (by omega)
      rw [if_pos (nI_le q (by omega)), e]
      by_cases q1 : w (2 + i) = -9
      · rw [if_pos q1]
        exact Or.inr ⟨(), rfl, decide_eq_true q1⟩
      · rw [if_neg q1, if_neg (by rw [zall_f (e.trans (decide_eq_false q1)) 6 hi]; decide)]
        exact Or.inl rfl
    · have e : pC n w i = decide (0 ≤ (w (2 + i)).toInt ∧ (w (2 + i)).toInt < 8) := if_pos (by omega)
      rw [if_neg (nI_ge (by omega) (by omega)), x_sideB, tt_cI, ← e]
      cases q1 : pC n w i with
      | true =>
        rw [if_neg (zi_1 rfl)]
        exact Or.inr ⟨(), rfl, rfl⟩
      | false =>
        rw [if_pos (zi_0 rfl), if_neg (by rw [zall_f q1 6 hi]; decide)]
        exact Or.inl rfl
theorem x_ct73 {F r n : Nat} {w : Nat → Int32} {S : sm_t} (hF : 1000 < F) (hr : r < 6) (hn : n < 7) (hw : ∀ k, k < 40 → S.1 (5 + r) k = w k) : x3_couldTell_73 F F (5 + r) (nI n) 0 0 S = some (nI (zi (zall (pD n w) 7 && decide (0 < zs (pE n w) 7))), S) := by
  refine lp0 (fun f (a : Int32) i => x3_couldTell_73 F f (5 + r) (nI n) a i S) 7 (fun i a => zall (pD n w) i = true ∧ a = nI (zs (pE n w) i)) (fun o => o = some (nI (zi (zall (pD n w) 7 && decide (0 < zs (pE n w) 7))), S)) (a := 0) (by omega) ⟨rfl, rfl⟩ (fun f a ha => ?_) (fun f i a hi ha => ?_)
  · change x3_couldTell_73 F (f + 1) (5 + r) (nI n) a 7 S = _
    have hl : zs (pE n w) 7 ≤ 9 * 7 := zs_le 7 (fun k hk => by
      have h1 := zall_t 7 ha.1 k hk
      unfold pD at h1
      unfold pE
      split
      · next q =>
        rw [if_pos q] at h1
        have h2 := of_decide_eq_true h1
        have h3 : (w (8 + k)).toNatClampNeg = (w (8 + k)).toInt.toNat := rfl
        omega
      · omega)
    rw [x3_couldTell_73, if_pos (by decide), ha.2, ha.1, Bool.true_and]
    unfold x3_couldTell_134
    by_cases q : 0 < zs (pE n w) 7
    · rw [if_neg (nI_nle q (by omega)), decide_eq_true q]
      rfl
    · rw [if_pos (show nI (zs (pE n w) 7) ≤ 0 from nI_le (b := 0) (by omega) (by omega)), decide_eq_false q]
      rfl
  · obtain ⟨ha, rfl⟩ := ha
    change x3_couldTell_73 F (f + 1) (5 + r) (nI n) (nI (zs (pE n w) i)) (nI i) S = _ ∨ ∃ a1, x3_couldTell_73 F (f + 1) (5 + r) (nI n) (nI (zs (pE n w) i)) (nI i) S = x3_couldTell_73 F f (5 + r) (nI n) a1 (nI (i + 1)) S ∧ (zall (pD n w) i && pD n w i) = true ∧ a1 = nI (zs (pE n w) i + pE n w i)
    rw [x3_couldTell_73, if_neg (show ¬ (6 : Int32) < nI i from nI_nlt (a := 6) (by omega) (by omega)), tt_an (tt_sq_row r hr), tk_a8, tt_r _ (hw (8 + i) (by omega)) (by omega) (by omega), ha, Bool.true_and]
    unfold x3_couldTell_114
    rw [tt_n, tt_n, nI_1 i, ad_0]
    by_cases q : i ≤ n
    · have e : pD n w i = decide (0 ≤ (w (8 + i)).toInt ∧ (w (8 + i)).toInt < 10) := if_pos q
      rw [if_neg (nI_nlt q (by omega)), x_in9, tt_cI, ← e]
      cases q1 : pD n w i with
      | true =>
        rw [e] at q1
        have h2 := of_decide_eq_true q1
        obtain ⟨j, hj, hj2⟩ | h3 := tt_below (w (8 + i)) 10 (by omega)
        · have e2 : pE n w i = j := by
            unfold pE
            rw [if_pos q, hj2, nI_clamp (by omega)]
          rw [if_neg (zi_1 rfl), if_neg (nI_nlt q (by omega)), hj2, nI_add, e2]
          exact Or.inr ⟨_, rfl, rfl, rfl⟩
        · omega
      | false =>
        rw [if_pos (zi_0 rfl), zall_f q1 7 hi]
        exact Or.inl rfl
    · have e : pD n w i = decide (w (8 + i) = -9) := if_neg q
      have e2 : pE n w i = 0 := if_neg q
      rw [if_pos (nI_lt (by omega) (by omega)), e, e2]
      by_cases q1 : w (8 + i) = -9
      · rw [if_pos q1, if_pos (nI_lt (by omega) (by omega))]
        exact Or.inr ⟨_, rfl, decide_eq_true q1, rfl⟩
      · rw [if_neg q1, zall_f (e.trans (decide_eq_false q1)) 7 hi]
        exact Or.inl rfl
theorem m_im124 {F : Nat} {l1 l2 l4 : Int32} {T : sm_t} (m : Nat) (hm : 0 < m) : x8_isImage_124 F m l1 l2 0 l4 0 T = some (0, T) := by
  obtain ⟨m, rfl⟩ : ∃ k, m = k + 1 := ⟨m - 1, by omega⟩
  rw [x8_isImage_124, if_neg (by decide), if_pos p00]
  rfl
theorem m_im63 {F : Nat} {l1 l2 l4 : Int32} {T : sm_t} (m : Nat) (hm : 0 < m) (hF : 0 < F) : x8_isImage_63 F m l1 l2 0 l4 0 T = some (0, T) := by
  obtain ⟨m, rfl⟩ : ∃ k, m = k + 1 := ⟨m - 1, by omega⟩
  rw [x8_isImage_63, if_neg (by decide), if_pos p00, m_im124 F hF]
theorem m_ct28 {F r n : Nat} {z : zz} {J T : sm_t} (hF : 1000 < F) (hr : r < 6) (hn : n < 7) (hm : mi z J T) : x8_isImage_63 F F (nI r) (nI n) 1 0 0 T = if zall (pC n (z_rw z r)) 6 = true then x8_isImage_124 F F (nI r) (nI n) 1 0 0 T else some (0, T) := by
  refine lp0 (fun f (a : Int32) i => x8_isImage_63 F f (nI r) (nI n) a 0 i T) 6 (fun i a => a = nI (zi (zall (pC n (z_rw z r)) i))) (fun o => o = if zall (pC n (z_rw z r)) 6 = true then x8_isImage_124 F F (nI r) (nI n) 1 0 0 T else some (0, T)) (a := 1) (by omega) rfl (fun f a ha => ?_) (fun f i a hi ha => ?_)
  · change x8_isImage_63 F (f + 1) (nI r) (nI n) a 0 6 T = _
    rw [x8_isImage_63, if_pos (by decide), ha]
    cases q : zall (pC n (z_rw z r)) 6 with
    | true => rw [if_pos rfl]; rfl
    | false =>
      rw [if_neg (by decide)]
      exact m_im124 F (by omega)
  · subst ha
    change x8_isImage_63 F (f + 1) (nI r) (nI n) (nI (zi (zall (pC n (z_rw z r)) i))) 0 (nI i) T = _ ∨ ∃ a1, x8_isImage_63 F (f + 1) (nI r) (nI n) (nI (zi (zall (pC n (z_rw z r)) i))) 0 (nI i) T = x8_isImage_63 F f (nI r) (nI n) a1 0 (nI (i + 1)) T ∧ a1 = nI (zi (zall (pC n (z_rw z r)) i && pC n (z_rw z r) i))
    rw [x8_isImage_63, if_neg (show ¬ (6 : Int32) ≤ nI i from nI_ge (b := 6) hi (by omega))]
    cases q0 : zall (pC n (z_rw z r)) i with
    | false =>
      refine Or.inl ?_
      have hf : zall (pC n (z_rw z r)) 6 = false := by
        cases q : zall (pC n (z_rw z r)) 6 with
        | false => rfl
        | true =>
          have h1 := zall_t 6 q
          have h2 : ∀ m, m ≤ 6 → zall (pC n (z_rw z r)) m = true := by
            intro m
            induction m with
            | zero => exact fun _ => rfl
            | succ m ih =>
              intro hm2
              show (zall (pC n (z_rw z r)) m && pC n (z_rw z r) m) = true
              rw [ih (by omega), h1 m (by omega)]
              rfl
          rw [h2 i (by omega)] at q0
          cases q0
      rw [if_pos (zi_0 rfl), if_neg (by rw [hf]; decide)]
      exact m_im124 F (by omega)
    | true =>
      refine Or.inr ⟨nI (zi (pC n (z_rw z r) i)), ?_, by rw [Bool.true_and]⟩
      rw [if_neg (zi_1 rfl), tk_a2, m_rowAt hm hr (by omega), tt_cI, tt_cI, nI_1]
      by_cases q : n ≤ i
      · have e : pC n (z_rw z r) i = decide (z_rw z r (2 + i) = -9) := if_neg (by omega)
        rw [if_pos (nI_le q (by omega)), e]
        by_cases q1 : z_rw z r (2 + i) = -9
        · rw [if_pos q1, decide_eq_true q1]
          rfl
        · rw [if_neg q1, decide_eq_false q1]
          rfl
      · have e : pC n (z_rw z r) i = decide (0 ≤ (z_rw z r (2 + i)).toInt ∧ (z_rw z r (2 + i)).toInt < 8) := if_pos (by omega)
        rw [if_neg (nI_ge (by omega) (by omega)), m_sideB, tt_cI, ← e]
theorem m_ct73 {F r n : Nat} {z : zz} {J T : sm_t} (hF : 1000 < F) (hr : r < 6) (hn : n < 7) (hm : mi z J T) : x8_isImage_124 F F (nI r) (nI n) 1 0 0 T = some (nI (zi (zall (pD n (z_rw z r)) 7 && decide (0 < zs (pE n (z_rw z r)) 7))), T) := by
  refine lp0 (fun f (a : Int32 × Int32) i => x8_isImage_124 F f (nI r) (nI n) a.1 a.2 i T) 7 (fun i a => (a.1 = 1 ∧ zall (pD n (z_rw z r)) i = true ∧ a.2 = nI (zs (pE n (z_rw z r)) i)) ∨ (a.1 = 0 ∧ zall (pD n (z_rw z r)) 7 = false)) (fun o => o = some (nI (zi (zall (pD n (z_rw z r)) 7 && decide (0 < zs (pE n (z_rw z r)) 7))), T)) (a := (1, 0)) (by omega) (Or.inl ⟨rfl, rfl, rfl⟩) (fun f a ha => ?_) (fun f i a hi ha => ?_)
  · obtain ⟨a1, a2⟩ := a
    change x8_isImage_124 F (f + 1) (nI r) (nI n) a1 a2 7 T = _
    rw [x8_isImage_124, if_pos (by decide)]
    unfold x8_isImage_200
    rcases ha with ⟨h1, h2, h3⟩ | ⟨h1, h2⟩
    · change a1 = 1 at h1
      change a2 = _ at h3
      have hl : zs (pE n (z_rw z r)) 7 ≤ 9 * 7 := zs_le 7 (fun k hk => by
        have h1 := zall_t 7 h2 k hk
        unfold pD at h1
        unfold pE
        split
        · next q =>
          rw [if_pos q] at h1
          have h2 := of_decide_eq_true h1
          have h3 : (z_rw z r (8 + k)).toNatClampNeg = (z_rw z r (8 + k)).toInt.toNat := rfl
          omega
        · omega)
      rw [h1, h2, h3, if_neg n10, Bool.true_and]
      by_cases q : 0 < zs (pE n (z_rw z r)) 7
      · rw [if_neg (nI_nle q (by omega)), decide_eq_true q]
        rfl
      · rw [if_pos (show nI (zs (pE n (z_rw z r)) 7) ≤ 0 from nI_le (b := 0) (by omega) (by omega)), decide_eq_false q]
        rfl
    · change a1 = 0 at h1
      rw [h1, if_pos p00, h2]
      rfl
  · obtain ⟨a1, a2⟩ := a
    change x8_isImage_124 F (f + 1) (nI r) (nI n) a1 a2 (nI i) T = _ ∨ ∃ b : Int32 × Int32, x8_isImage_124 F (f + 1) (nI r) (nI n) a1 a2 (nI i) T = x8_isImage_124 F f (nI r) (nI n) b.1 b.2 (nI (i + 1)) T ∧ ((b.1 = 1 ∧ (zall (pD n (z_rw z r)) i && pD n (z_rw z r) i) = true ∧ b.2 = nI (zs (pE n (z_rw z r)) i + pE n (z_rw z r) i)) ∨ (b.1 = 0 ∧ zall (pD n (z_rw z r)) 7 = false))
    rw [x8_isImage_124, if_neg (show ¬ (6 : Int32) < nI i from nI_nlt (a := 6) (by omega) (by omega))]
    rcases ha with ⟨h1, h2, h3⟩ | ⟨h1, h2⟩
    · change a1 = 1 at h1
      change a2 = _ at h3
      subst h1 h3
      rw [if_neg n10, tk_a8, m_rowAt hm hr (by omega), tt_cI, h2, Bool.true_and]
      refine Or.inr ?_
      unfold x8_isImage_176
      simp only [tt_n, nI_1 i, ad_0]
      by_cases q : i ≤ n
      · have e : pD n (z_rw z r) i = decide (0 ≤ (z_rw z r (8 + i)).toInt ∧ (z_rw z r (8 + i)).toInt < 10) := if_pos q
        rw [if_neg (nI_nlt q (by omega)), m_in9, tt_cI, ← e, if_neg (nI_nlt q (by omega))]
        cases q1 : pD n (z_rw z r) i with
        | true =>
          rw [e] at q1
          have h2 := of_decide_eq_true q1
          obtain ⟨j, hj, hj2⟩ | h3 := tt_below (z_rw z r (8 + i)) 10 (by omega)
          · have e2 : pE n (z_rw z r) i = j := by
              unfold pE
              rw [if_pos q, hj2, nI_clamp (by omega)]
            rw [hj2, nI_add, e2]
            exact ⟨(_, _), rfl, Or.inl ⟨rfl, rfl, rfl⟩⟩
          · omega
        | false => exact ⟨(_, _), rfl, Or.inr ⟨rfl, zall_f q1 7 hi⟩⟩
      · have e : pD n (z_rw z r) i = decide (z_rw z r (8 + i) = -9) := if_neg q
        have e2 : pE n (z_rw z r) i = 0 := if_neg q
        rw [if_pos (nI_lt (by omega) (by omega)), if_pos (nI_lt (by omega) (by omega)), if_pos (nI_lt (by omega) (by omega)), e2]
        by_cases q1 : z_rw z r (8 + i) = -9
        · rw [if_pos q1]
          exact ⟨(_, _), rfl, Or.inl ⟨rfl, e.trans (decide_eq_true q1), rfl⟩⟩
        · rw [if_neg q1]
          exact ⟨(_, _), rfl, Or.inr ⟨rfl, zall_f (e.trans (decide_eq_false q1)) 7 hi⟩⟩
    · change a1 = 0 at h1
      subst h1
      refine Or.inl ?_
      rw [if_pos p00, h2]
      rfl
