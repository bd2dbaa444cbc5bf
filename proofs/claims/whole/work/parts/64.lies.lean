/-! ===== lies, undo, told ===== -/
theorem q_lies {z : zz} {J K S T : sm_t} (hz : zw z) (hx : xi z J S) (hm : mi z K T) {F : Nat} (k c : Int32) : bt J K (x7_lies F k c S) (x8_lies F k c T) := by
  unfold x7_lies x8_lies
  rw [show (1 : Int32) = nI 1 from rfl, show (3 : Int32) = nI 3 from rfl]
  rcases tt_from k 1 3 (by omega) with ⟨k, h1, h2, rfl⟩ | h
  · rw [m_inAB h1 h2 (by omega), tt_cI, if_neg (nI_nlt h1 (by omega)), if_neg (nI_nlt h2 (by omega)), if_neg (by decide)]
    rcases tt_below c 120 (by omega) with ⟨c, hc, rfl⟩ | h
    · obtain ⟨k, rfl⟩ : ∃ m, k = m + 1 := ⟨k - 1, by omega⟩
      have e1 := hx.2.2.2.2.2.2.1 k (by omega)
      have e2 := hm.2.2.2.2.2.2.1.2 k (by omega)
      rw [x_cell1 hc, m_cell1 hc, tt_cI, tt_cI, if_neg (by decide), if_neg (by decide)]
      have e3 : nI (k + 1) - nI 1 = nI k := nI_pred k
      rw [e3]
      cases hs : z_st z (k + 1) with
      | none =>
        rw [hs] at e1 e2
        have e4 : x7_isMissing F (nI (k + 1)) S = some (1, S) := by
          unfold x7_isMissing
          rw [if_neg (nI_nle (by omega) (by omega)), show (3 : Int32) = nI 3 from rfl, if_neg (nI_nlt (by omega) (by omega)), nI_pred, tt_r _ e1.1 (by omega) (by omega)]
          rfl
        rw [e4, tt_cI, if_neg (by decide), tt_r _ e2.1 (by omega) (by omega)]
        rw [show x7_found F (nI 1) S = some (-3, xfd S 1) from x_f1, show x8_meets F (nI 1) T = some (-3, mfd T 1) from m_f1]
        exact bt_fd hz hx hm (by omega)
      | some w =>
        rw [hs] at e1 e2
        have e4 : x7_isMissing F (nI (k + 1)) S = some (0, S) := by
          unfold x7_isMissing
          rw [if_neg (nI_nle (by omega) (by omega)), show (3 : Int32) = nI 3 from rfl, if_neg (nI_nlt (by omega) (by omega)), nI_pred, tt_r _ e1.1 (by omega) (by omega)]
          rfl
        rw [e4, tt_cI, if_pos (by decide), tt_rd (by omega) (by omega), tt_an (tt_sq_story k (by omega)), tt_r _ (e1.2 w rfl c hc) hc (by omega), tt_r _ e2.1 (by omega) (by omega), if_neg (show ¬ z_b (some w) = 0 by show ¬ (1 : Int32) = 0; decide), tk_m120, nI_add, tt_r _ (e2.2 w rfl c hc) (by omega) (by omega)]
        exact bt_same hz hx hm _
    · rw [x_cell0 h, m_cell0 h]
      exact bt_same hz hx hm (-1)
  · rw [m_inABN h (by omega) (by omega)]
    by_cases q : k < nI 1
    · rw [if_pos q]
      exact bt_same hz hx hm (-1)
    · rw [if_neg q, if_pos]
      · exact bt_same hz hx hm (-1)
      · rw [tt_lt, tt_nI (by omega)] at q
        rw [tt_lt, tt_nI (by omega)]
        omega
/-! signs: which there are -/
theorem x_has1 {F e : Nat} {z : zz} {J S : sm_t} (hz : zw z) (h : xi z J S) (he : e < z_sn z) : x0_has F (nI e) S = some (1, S) := by
  have hn := hz.2.2.2.2.1
  unfold x0_has
  rw [if_neg (nI_pos (by omega)), tt_n, h.2.2.2.2.2.2.2.1.1, if_neg (nI_ge he (by omega))]
theorem x_has0 {F : Nat} {e : Int32} {z : zz} {J S : sm_t} (hz : zw z) (h : xi z J S) (he : e.toInt < 0 ∨ (z_sn z : Int) ≤ e.toInt) : x0_has F e S = some (0, S) := by
  have hn := hz.2.2.2.2.1
  unfold x0_has
  by_cases q : e < 0
  · rw [if_pos q]
  · rw [if_neg q, tt_n, h.2.2.2.2.2.2.2.1.1, if_pos]
    rw [tt_lt] at q
    rw [tt_le, tt_nI (by omega)]
    simp only [Int32.reduceToInt] at q
    omega
theorem m_has1 {F e : Nat} {z : zz} {J S : sm_t} (hz : zw z) (h : mi z J S) (he : e < z_sn z) : x8_isSign F (nI e) S = some (1, S) := by
  have hn := hz.2.2.2.2.1
  unfold x8_isSign
  rw [tt_n, h.2.2.2.2.2.2.2.1.1, m_in, if_neg (nI_pos (by omega)), if_neg]
  · rfl
  · rw [tt_lt, show (nI (z_sn z) - 1).toInt = (z_sn z : Int) - 1 from pk_sub_toInt (b := 1) (by omega) (by omega), tt_nI (by omega)]
    omega
theorem m_has0 {F : Nat} {e : Int32} {z : zz} {J S : sm_t} (hz : zw z) (h : mi z J S) (he : e.toInt < 0 ∨ (z_sn z : Int) ≤ e.toInt) : x8_isSign F e S = some (0, S) := by
  have hn := hz.2.2.2.2.1
  unfold x8_isSign
  rw [tt_n, h.2.2.2.2.2.2.2.1.1, m_in]
  by_cases q : e < 0
  · rw [if_pos q]
    rfl
  · rw [if_neg q, if_pos]
    · rfl
    · rw [tt_lt] at q
      rw [tt_lt, show (nI (z_sn z) - 1).toInt = (z_sn z : Int) - 1 from pk_sub_toInt (b := 1) (by omega) (by omega)]
      simp only [Int32.reduceToInt] at q
      omega
theorem m_tell {F e i : Nat} {z : zz} {J S : sm_t} (hz : zw z) (h : mi z J S) (he : e < z_sn z) (hi : i < 5) : x8_tell F (nI e) (nI i) S = some (nI (z_sg z e i), S) := by
  have hn := hz.2.2.2.2.1
  unfold x8_tell
  rw [tk_m5, nI_add, tt_r _ (h.2.2.2.2.2.2.2.1.2 e i he hi) (by omega) (by omega)]
theorem x_sgn {e i : Nat} {z : zz} {J S : sm_t} (h : xi z J S) (he : e < z_sn z) (hi : i < 5) : S.1 (24 + e) i = nI (z_sg z e i) := h.2.2.2.2.2.2.2.1.2 e i he hi
theorem z_un {z : zz} {e : Nat} (hz : zw z) (he : e < z_sn z) : z_sg z e 4 ≤ 1 := (hz.2.2.2.2.2.1 e he).1
theorem x_num6 {F e i : Nat} {z : zz} {J S : sm_t} (hz : zw z) (h : xi z J S) (he : e < z_sn z) (hi : i < 5) : x6_number F (24 + e) (nI i) S = some (nI (z_sg z e i), S) := by
  have hn := hz.2.2.2.2.1
  have ho : sm_sq (24 + e) = some (.inr 5) := tt_sq_sign e (by omega)
  have e0 := x_sgn h he (show 0 < 5 by omega)
  have e1 := x_sgn h he (show 1 < 5 by omega)
  have e2 := x_sgn h he (show 2 < 5 by omega)
  have e3 := x_sgn h he (show 3 < 5 by omega)
  have e4 := x_sgn h he (show 4 < 5 by omega)
  have hu := z_un hz he
  unfold x6_number
  rw [tt_on ho, tt_on ho, tt_on ho, tt_on ho, tt_on ho]
  rcases (show i = 0 ∨ i = 1 ∨ i = 2 ∨ i = 3 ∨ i = 4 by omega) with rfl | rfl | rfl | rfl | rfl
  · rw [if_neg (by decide), if_pos (by decide), tt_n, e0]
  · rw [if_neg (by decide), if_neg (by decide), if_pos (by decide), tt_n, e1]
  · rw [if_neg (by decide), if_neg (by decide), if_neg (by decide), if_pos (by decide), tt_n, e2]
  · rw [if_neg (by decide), if_neg (by decide), if_neg (by decide), if_neg (by decide), if_pos (by decide), tt_n, e3]
  · rw [if_pos (by decide), tt_n, e4]
    rcases (show z_sg z e 4 = 0 ∨ z_sg z e 4 = 1 by omega) with q | q
    · rw [q, if_pos (by decide)]
      rfl
    · rw [q, if_neg (by decide)]
      rfl
theorem q_told {z : zz} {J K S T : sm_t} (hz : zw z) (hx : xi z J S) (hm : mi z K T) {F : Nat} (e i : Int32) : bt J K (x7_told F e i S) (x8_told F e i T) := by
  have hn := hz.2.2.2.2.1
  unfold x7_told x8_told
  rw [show (4 : Int32) = nI 4 from rfl]
  rcases tt_below e (z_sn z) (by omega) with ⟨e, he, rfl⟩ | h
  · rw [x_has1 hz hx he, m_has1 hz hm he, tt_cI, tt_cI, if_neg (by decide), if_neg (by decide)]
    rcases tt_below i 5 (by omega) with ⟨i, hi, rfl⟩ | h
    · rw [x_wi1 (by omega) (by omega), m_in1 (by omega) (by omega), tt_cI, tt_cI, if_neg (by decide), if_neg (by decide), tt_rd (by omega) (by omega), tt_on (tt_sq_sign e (by omega)), x_num6 hz hx he hi, tt_cI, tt_n, m_tell hz hm he hi, tt_cI]
      exact bt_ak hz hx hm _ _
    · rw [x_wiN (by omega) (by omega), m_inN (by omega) (by omega)]
      exact bt_same hz hx hm (-1)
  · rw [x_has0 hz hx h, m_has0 hz hm h]
    exact bt_same hz hx hm (-1)
/-- one number of one sign -/
def z1s (z : zz) (e i v : Nat) : zz := zq_sg z (z_sn z, fun a b => if a = e ∧ b = i then v else z_sg z a b)
theorem xi_un {z : zz} {J S : sm_t} {e v : Nat} (hz : zw z) (h : xi z J S) (he : e < z_sn z) : xi (z1s z e 4 v) J (sm_wI S (24 + e) 4 (nI v)) := by
  have hn := hz.2.2.2.2.1
  refine xc_sg _ h (fun b hb => tt_1 (by omega)) rfl ⟨?_, fun a i ha hi => ?_⟩
  · rw [tt_1 (by omega)]
    exact h.2.2.2.2.2.2.2.1.1
  · have ha : a < z_sn z := ha
    change _ = nI (if a = e ∧ i = 4 then v else z_sg z a i)
    by_cases q : a = e
    · subst q
      rw [tt_1s]
      by_cases q1 : i = 4
      · rw [if_pos q1, if_pos ⟨rfl, q1⟩]
      · rw [if_neg q1, if_neg (fun q => q1 q.2)]
        exact x_sgn h ha hi
    · rw [tt_1 (by omega), if_neg (fun p => q p.1)]
      exact x_sgn h ha hi
theorem mi_un {z : zz} {J S : sm_t} {e v : Nat} (h : mi z J S) (he : e < z_sn z) : mi (z1s z e 4 v) J (sm_wI S 63 (5 * e + 4) (nI v)) := by
  refine mc_sg _ h (fun b hb => tt_1 (by omega)) (fun i hi => by rw [tt_1 (by omega)]) rfl ⟨?_, fun a i ha hi => ?_⟩
  · rw [tt_1 (by omega)]
    exact h.2.2.2.2.2.2.2.1.1
  · have ha : a < z_sn z := ha
    change _ = nI (if a = e ∧ i = 4 then v else z_sg z a i)
    rw [tt_1s]
    by_cases q : a = e ∧ i = 4
    · rw [if_pos q, if_pos (by omega)]
    · rw [if_neg q, if_neg (by omega)]
      exact h.2.2.2.2.2.2.2.1.2 a i ha hi
theorem zw_un {z : zz} {e v : Nat} (hz : zw z) (hv : v ≤ 1) : zw (z1s z e 4 v) := by
  refine ⟨hz.1, hz.2.1, hz.2.2.1, hz.2.2.2.1, hz.2.2.2.2.1, fun a ha => ?_, hz.2.2.2.2.2.2⟩
  have h1 := hz.2.2.2.2.2.1 a ha
  change zw_sg (if a = e ∧ 0 = 4 then v else z_sg z a 0) (if a = e ∧ 1 = 4 then v else z_sg z a 1) (if a = e ∧ 2 = 4 then v else z_sg z a 2) (if a = e ∧ 3 = 4 then v else z_sg z a 3) (if a = e ∧ 4 = 4 then v else z_sg z a 4)
  rw [if_neg (by omega), if_neg (by omega), if_neg (by omega), if_neg (by omega)]
  refine ⟨?_, h1.2⟩
  split
  · exact hv
  · exact h1.1
theorem q_undo {z : zz} {J K S T : sm_t} (hz : zw z) (hx : xi z J S) (hm : mi z K T) {F : Nat} (e i : Int32) : bt J K (x7_undo F e i S) (x8_undo F e i T) := by
  have hn := hz.2.2.2.2.1
  unfold x7_undo x8_undo
  rcases tt_below e (z_sn z) (by omega) with ⟨e, he, rfl⟩ | h
  · rw [x_has1 hz hx he, m_has1 hz hm he, tt_cI, tt_cI, if_neg (by decide), if_neg (by decide)]
    rcases tt_below i 2 (by omega) with ⟨i, hi, rfl⟩ | h
    · have ho : sm_sq (24 + e) = some (.inr 5) := tt_sq_sign e (by omega)
      have e1 : x8_in F (nI i) 0 1 T = some (1, T) := m_in1 (b := 1) (by omega) (by omega)
      have e2 : x7_isWithin F (nI i) 1 S = some (1, S) := x_wi1 (b := 1) (by omega) (by omega)
      have e3 : x8_tell F (nI e) 4 T = some (nI (z_sg z e 4), T) := m_tell hz hm he (i := 4) (by omega)
      have e4 : ∀ t, x7_undo_41 F (nI e) (nI i) t S = some (t, sm_wI S (24 + e) 4 (nI i)) := by
        intro t
        unfold x7_undo_41
        rw [tt_rd (by omega) (by omega), tt_on ho, tt_on ho]
        rcases (show i = 0 ∨ i = 1 by omega) with rfl | rfl
        · rw [if_neg (by decide)]
          rfl
        · rw [if_pos (by decide)]
          rfl
      have hu := z_un hz he
      rw [e1, e2, tt_cI, tt_cI, if_neg (by decide), if_neg (by decide), tt_rd (by omega) (by omega), tt_on ho, tt_n, x_sgn hx he (by omega), e3, tt_cI, tk_m5, tk_b4, tt_wr (by omega) (by omega), e4, e4]
      refine ⟨nI (z_sg z e 4), z1s z e 4 i, _, _, ?_, rfl, zw_un hz (by omega), xi_un hz hx he, mi_un hm he⟩
      rcases (show z_sg z e 4 = 0 ∨ z_sg z e 4 = 1 by omega) with q | q
      · rw [q, if_pos (by decide)]
        rfl
      · rw [q, if_neg (by decide)]
        rfl
    · have e1 : x8_in F i 0 1 T = some (0, T) := m_inN (b := 1) (by omega) (by omega)
      have e2 : x7_isWithin F i 1 S = some (0, S) := x_wiN (b := 1) (by omega) (by omega)
      rw [e1, e2]
      exact bt_same hz hx hm (-1)
  · rw [x_has0 hz hx h, m_has0 hz hm h]
    exact bt_same hz hx hm (-1)
