/-! ===== weighs, mark ===== -/
def xk (z : zz) (f : Nat → Nat → Int32) : Prop := (f 19 0 = nI (z_ce z) ∧ f 19 1 = nI (z_ho z) ∧ (∀ h, h < z_ho z → f 20 h = nI (z_co z h)) ∧ (∀ h, h ≤ z_ho z → f 21 h = nI (z_en z h))) ∧ (f 22 1 = nI (z_sn z) ∧ ∀ e i, e < z_sn z → i < 5 → f (24 + e) i = nI (z_sg z e i)) ∧ (∀ k, k < 3 → f 45 k = z_b (z_st z (k + 1)) ∧ ∀ w, z_st z (k + 1) = some w → ∀ c, c < 120 → f (37 + k) c = nI (w c))
def mk (z : zz) (f : Nat → Nat → Int32) : Prop := (f 59 0 = nI (z_ce z) ∧ f 59 1 = nI (z_ho z) ∧ (∀ h, h < 6 → f 59 (2 + h) = if h < z_ho z then nI (z_co z h) else -9) ∧ (∀ h, h < 7 → f 59 (8 + h) = if h ≤ z_ho z then nI (z_en z h) else -9)) ∧ (f 52 17 = nI (z_sn z) ∧ ∀ e i, e < z_sn z → i < 5 → f 63 (5 * e + i) = nI (z_sg z e i)) ∧ (f 60 0 = 0 ∧ ∀ k, k < 3 → f 60 (k + 1) = z_b (z_st z (k + 1)) ∧ ∀ w, z_st z (k + 1) = some w → ∀ c, c < 120 → f 61 (120 * (k + 1) + c) = nI (w c))
theorem xk_of {z : zz} {J S : sm_t} (h : xi z J S) : xk z S.1 := ⟨h.2.2.2.2.2.1, h.2.2.2.2.2.2.2.1, h.2.2.2.2.2.2.1⟩
theorem mk_of {z : zz} {J S : sm_t} (h : mi z J S) : mk z S.1 := ⟨h.2.2.2.2.2.1, h.2.2.2.2.2.2.2.1, h.2.2.2.2.2.2.1⟩
theorem k_tell {F e i : Nat} {z : zz} {S : sm_t} (hz : zw z) (h : mk z S.1) (he : e < z_sn z) (hi : i < 5) : x8_tell F (nI e) (nI i) S = some (nI (z_sg z e i), S) := by
  have hn := hz.2.2.2.2.1
  unfold x8_tell
  rw [tk_m5, nI_add, tt_r _ (h.2.1.2 e i he hi) (by omega) (by omega)]
theorem k_hours {F : Nat} {z : zz} {S : sm_t} (h : mk z S.1) : x8_hours F S = some (nI (z_ho z), S) := by
  unfold x8_hours
  rw [tr_1 _ (by omega) (by omega), h.1.2.1]
theorem k_courseOf {F k : Nat} {z : zz} {S : sm_t} (hz : zw z) (h : mk z S.1) (hk : k < z_ho z) : x8_courseOf F (nI k) S = some (nI (z_co z k), S) := by
  have hh := hz.2.2.1.2.1
  unfold x8_courseOf
  rw [tk_a2, tt_r _ (h.1.2.2.1 k (by omega)) (by omega) (by omega), if_pos hk]
theorem k_endOf {F k : Nat} {z : zz} {S : sm_t} (hz : zw z) (h : mk z S.1) (hk : k ≤ z_ho z) : x8_endOf F (nI k) S = some (nI (z_en z k), S) := by
  have hh := hz.2.2.1.2.1
  unfold x8_endOf
  rw [tk_a8, tt_r _ (h.1.2.2.2 k (by omega)) (by omega) (by omega), if_pos hk]
theorem sg_ok {z : zz} {e : Nat} (hz : zw z) (he : e < z_sn z) : zw_sg (z_sg z e 0) (z_sg z e 1) (z_sg z e 2) (z_sg z e 3) (z_sg z e 4) := hz.2.2.2.2.2.1 e he
theorem sq_sg {z : zz} {e : Nat} (hz : zw z) (he : e < z_sn z) : sm_sq (24 + e) = some (.inr 5) := tt_sq_sign e (by have := hz.2.2.2.2.1; omega)
theorem k_xw {F e p : Nat} {z : zz} {S : sm_t} (hz : zw z) (h : xk z S.1) (he : e < z_sn z) (hp : p < 120) (hp3 : z_sg z e 0 = 3 → p < 7) : x6_weight F (24 + e) (nI p) S = some (nI (zwt (z_sg z e) p), S) := x_weight (sq_sg hz he) (fun i hi => h.2.1.2 e i he hi) (sg_ok hz he) hp hp3
theorem k_mw {F e p : Nat} {z : zz} {S : sm_t} (hz : zw z) (h : mk z S.1) (he : e < z_sn z) (hp : p < 120) (hp3 : z_sg z e 0 = 3 → p < 7) : x8_weight F (nI e) (nI p) S = some (nI (zwt (z_sg z e) p), S) := m_weight (fun i hi => k_tell hz h he hi) (sg_ok hz he) hp hp3
theorem q_weighs {z : zz} {J K S T : sm_t} (hz : zw z) (hx : xi z J S) (hm : mi z K T) {F : Nat} (e p : Int32) : bt J K (x7_weighs F e p S) (x8_weighs F e p T) := by
  have hn := hz.2.2.2.2.1
  unfold x7_weighs x8_weighs
  rcases tt_below e (z_sn z) (by omega) with ⟨e, he, rfl⟩ | h
  · have hs := sg_ok hz he
    have e0 : x8_tell F (nI e) 0 T = some (nI (z_sg z e 0), T) := m_tell hz hm he (i := 0) (by omega)
    rw [x_has1 hz hx he, m_has1 hz hm he, tt_cI, tt_cI, if_neg (by decide), if_neg (by decide), tt_rd (by omega) (by omega), tt_on (sq_sg hz he), tt_n, x_sgn hx he (by omega), e0, tt_cI]
    by_cases k3 : z_sg z e 0 = 3
    · rw [if_pos (show nI (z_sg z e 0) = 3 by rw [k3]; rfl), if_pos (show nI (z_sg z e 0) = 3 by rw [k3]; rfl), show (6 : Int32) = nI 6 from rfl]
      rcases tt_below p 7 (by omega) with ⟨p, hp, rfl⟩ | h
      · rw [x_wi1 (by omega) (by omega), m_in1 (by omega) (by omega), tt_cI, tt_cI, if_neg (by decide), if_neg (by decide), k_xw hz (xk_of hx) he (by omega) (fun _ => hp), k_mw hz (mk_of hm) he (by omega) (fun _ => hp)]
        exact bt_same hz hx hm _
      · rw [x_wiN (by omega) (by omega), m_inN (by omega) (by omega)]
        exact bt_same hz hx hm (-1)
    · have q3 : ¬ nI (z_sg z e 0) = 3 := fun q => k3 ((nI_eq (b := 3) (by have := hs.2; omega) (by omega)).mp q)
      rw [if_neg q3, if_neg q3]
      rcases tt_below p 120 (by omega) with ⟨p, hp, rfl⟩ | h
      · rw [x_cell1 hp, m_cell1 hp, tt_cI, tt_cI, if_neg (by decide), if_neg (by decide), k_xw hz (xk_of hx) he hp (fun q => absurd q k3), k_mw hz (mk_of hm) he hp (fun q => absurd q k3)]
        exact bt_same hz hx hm _
      · rw [x_cell0 h, m_cell0 h]
        exact bt_same hz hx hm (-1)
  · rw [x_has0 hz hx h, m_has0 hz hm h]
    exact bt_same hz hx hm (-1)
theorem zs_cn {p : Nat → Bool} : ∀ n, zs (fun k => zi (p k)) n ≤ n := by
  intro n
  induction n with
  | zero => exact Nat.le_refl 0
  | succ n ih =>
    change zs _ n + zi (p n) ≤ n + 1
    have : zi (p n) ≤ 1 := by
      unfold zi
      split <;> omega
    omega
theorem zs_s (g : Nat → Nat) (n : Nat) : zs g (n + 1) = zs g n + g n := rfl
theorem ad_0 (a : Nat) : nI a + 0 = nI a := nI_add a 0
theorem x_cells {F e : Nat} {z : zz} {S : sm_t} (hF : 1000 < F) (hz : zw z) (h : xk z S.1) (he : e < z_sn z) (k4 : z_sg z e 0 = 4) : x6_cellsSeen F (24 + e) S = some (nI (zs (fun c => zi (zseen c (z_sg z e 1) (z_sg z e 2))) 120), S) := by
  have hs := sg_ok hz he
  unfold x6_cellsSeen
  refine lp0 (fun f (a : Int32) i => x6_cellsSeen_4 F f (24 + e) a i S) 120 (fun i a => a = nI (zs (fun c => zi (zseen c (z_sg z e 1) (z_sg z e 2))) i)) (fun o => o = some (nI (zs (fun c => zi (zseen c (z_sg z e 1) (z_sg z e 2))) 120), S)) (by omega) rfl (fun f a ha => ?_) (fun f i a hi ha => Or.inr ⟨_, ?_, rfl⟩)
  · change x6_cellsSeen_4 F (f + 1) (24 + e) a 120 S = _
    rw [x6_cellsSeen_4, if_pos (show (120 : Int32) ≤ 120 by decide), ha]
  · change x6_cellsSeen_4 F (f + 1) (24 + e) a (nI i) S = x6_cellsSeen_4 F f (24 + e) _ (nI (i + 1)) S
    rw [x6_cellsSeen_4, if_neg (show ¬ (120 : Int32) ≤ nI i from nI_ge (b := 120) hi (by omega)), tt_on (sq_sg hz he), x_saw (sq_sg hz he) (fun i hi => h.2.1.2 e i he hi) hi (by have := hs.2; omega) (by have := hs.2; omega), tt_cI, ha, nI_1 i, zs_s]
    cases zseen i (z_sg z e 1) (z_sg z e 2) with
    | false => rw [if_pos (zi_0 rfl), tt_n, ad_0]; rfl
    | true => rw [if_neg (zi_1 rfl), tt_n, nI_1]; rfl
theorem x_full {F e : Nat} {z : zz} {S : sm_t} (hF : 1000 < F) (hz : zw z) (h : xk z S.1) (he : e < z_sn z) (k3 : z_sg z e 0 ≠ 3) : x6_cellsOfFullWeight F (24 + e) S = some (nI (zs (fun c => zi (decide (zwt (z_sg z e) c = 12))) 120), S) := by
  unfold x6_cellsOfFullWeight
  refine lp0 (fun f (a : Int32) i => x6_cellsOfFullWeight_4 F f (24 + e) a i S) 120 (fun i a => a = nI (zs (fun c => zi (decide (zwt (z_sg z e) c = 12))) i)) (fun o => o = some (nI (zs (fun c => zi (decide (zwt (z_sg z e) c = 12))) 120), S)) (by omega) rfl (fun f a ha => ?_) (fun f i a hi ha => Or.inr ⟨_, ?_, rfl⟩)
  · change x6_cellsOfFullWeight_4 F (f + 1) (24 + e) a 120 S = _
    rw [x6_cellsOfFullWeight_4, if_pos (show (120 : Int32) ≤ 120 by decide), ha]
  · change x6_cellsOfFullWeight_4 F (f + 1) (24 + e) a (nI i) S = x6_cellsOfFullWeight_4 F f (24 + e) _ (nI (i + 1)) S
    have hl := zwt_le (z_sg z e) i
    rw [x6_cellsOfFullWeight_4, if_neg (show ¬ (120 : Int32) ≤ nI i from nI_ge (b := 120) hi (by omega)), tt_on (sq_sg hz he), k_xw hz h he hi (fun q => absurd q k3), tt_cI, ha, nI_1 i, zs_s]
    by_cases q : zwt (z_sg z e) i = 12
    · rw [if_pos (show nI (zwt (z_sg z e) i) = 12 by rw [q]; rfl), tt_n, nI_1, decide_eq_true q]; rfl
    · rw [if_neg (show ¬ nI (zwt (z_sg z e) i) = 12 from fun p => q ((nI_eq (b := 12) (by omega) (by omega)).mp p)), tt_n, ad_0, decide_eq_false q]; rfl
theorem m_full {F e : Nat} {z : zz} {S : sm_t} (hF : 1000 < F) (hz : zw z) (h : mk z S.1) (he : e < z_sn z) (k3 : z_sg z e 0 ≠ 3) : x8_fullCells F (nI e) S = some (nI (zs (fun c => zi (if z_sg z e 0 = 4 then zseen c (z_sg z e 1) (z_sg z e 2) else decide (zwt (z_sg z e) c = 12))) 120), S) := by
  have hs := sg_ok hz he
  have e0 : x8_tell F (nI e) 0 S = some (nI (z_sg z e 0), S) := k_tell hz h he (i := 0) (by omega)
  have e1 : x8_tell F (nI e) 1 S = some (nI (z_sg z e 1), S) := k_tell hz h he (i := 1) (by omega)
  have e2 : x8_tell F (nI e) 2 S = some (nI (z_sg z e 2), S) := k_tell hz h he (i := 2) (by omega)
  unfold x8_fullCells
  refine lp0 (fun f (a : Int32) i => x8_fullCells_4 F f (nI e) a i S) 120 (fun i a => a = nI (zs (fun c => zi (if z_sg z e 0 = 4 then zseen c (z_sg z e 1) (z_sg z e 2) else decide (zwt (z_sg z e) c = 12))) i)) (fun o => o = some (nI (zs (fun c => zi (if z_sg z e 0 = 4 then zseen c (z_sg z e 1) (z_sg z e 2) else decide (zwt (z_sg z e) c = 12))) 120), S)) (by omega) rfl (fun f a ha => ?_) (fun f i a hi ha => Or.inr ⟨_, ?_, rfl⟩)
  · change x8_fullCells_4 F (f + 1) (nI e) a 120 S = _
    rw [x8_fullCells_4, if_pos (show (120 : Int32) ≤ 120 by decide), ha]
  · change x8_fullCells_4 F (f + 1) (nI e) a (nI i) S = x8_fullCells_4 F f (nI e) _ (nI (i + 1)) S
    have hl := zwt_le (z_sg z e) i
    rw [x8_fullCells_4, if_neg (show ¬ (120 : Int32) ≤ nI i from nI_ge (b := 120) hi (by omega)), e0, tt_cI, ha, nI_1 i, zs_s]
    by_cases k4 : z_sg z e 0 = 4
    · rw [if_pos (show nI (z_sg z e 0) = 4 by rw [k4]; rfl), e1, tt_cI, e2, tt_cI, m_saw hi (by have := hs.2; omega) (by have := hs.2; omega), tt_cI, if_pos k4]
      cases zseen i (z_sg z e 1) (z_sg z e 2) with
      | false => rw [if_pos (zi_0 rfl), tt_n, ad_0]; rfl
      | true => rw [if_neg (zi_1 rfl), tt_n, nI_1]; rfl
    · rw [if_neg (show ¬ nI (z_sg z e 0) = 4 from fun p => k4 ((nI_eq (b := 4) (by have := hs.2; omega) (by omega)).mp p)), k_mw hz h he hi (fun q => absurd q k3), tt_cI, if_neg k4]
      by_cases q : zwt (z_sg z e) i = 12
      · rw [if_pos (show nI (zwt (z_sg z e) i) = 12 by rw [q]; rfl), tt_n, nI_1, decide_eq_true q]; rfl
      · rw [if_neg (show ¬ nI (zwt (z_sg z e) i) = 12 from fun p => q ((nI_eq (b := 12) (by omega) (by omega)).mp p)), tt_n, ad_0, decide_eq_false q]; rfl
theorem q_mark {z : zz} {J K S T : sm_t} (hz : zw z) (hx : xi z J S) (hm : mi z K T) {F : Nat} (hF : 1000 < F) (e k : Int32) : bt J K (x7_mark F e k S) (x8_mark F e k T) := by
  have hn := hz.2.2.2.2.1
  unfold x7_mark x8_mark
  rcases tt_below e (z_sn z) (by omega) with ⟨e, he, rfl⟩ | h
  · have hs := sg_ok hz he
    have hk7 : z_sg z e 0 < 8 := by have := hs.2; omega
    have e0 : x8_tell F (nI e) 0 T = some (nI (z_sg z e 0), T) := m_tell hz hm he (i := 0) (by omega)
    have e1 : x8_tell F (nI e) 1 T = some (nI (z_sg z e 1), T) := m_tell hz hm he (i := 1) (by omega)
    have e2 : x8_tell F (nI e) 2 T = some (nI (z_sg z e 2), T) := m_tell hz hm he (i := 2) (by omega)
    have e3 : x8_tell F (nI e) 3 T = some (nI (z_sg z e 3), T) := m_tell hz hm he (i := 3) (by omega)
    have ho := sq_sg hz he
    rw [x_has1 hz hx he, m_has1 hz hm he, tt_cI, tt_cI, if_neg n10, if_neg n10]
    rcases tt_from k 1 7 (by omega) with ⟨k, h1, h2, rfl⟩ | h
    · rw [show x8_in F (nI k) 1 7 T = some (1, T) from m_inAB (a := 1) (b := 7) h1 h2 (by omega), tt_cI, if_neg n10, if_neg (show ¬ nI k < 1 from nI_nlt (b := 1) h1 (by omega)), if_pos (show nI k ≤ 7 from nI_le (b := 7) h2 (by omega)), tt_rd (by omega) (by omega), tt_on ho, e0, tt_cI]
      have hq : ∀ j, j < 8 → (nI (z_sg z e 0) = nI j ↔ z_sg z e 0 = j) := fun j hj => nI_eq (by omega) (by omega)
      have hq5 : (nI k = 5 ↔ k = 5) := nI_eq (b := 5) (by omega) (by omega)
      have hq6 : (nI (z_sg z e 0) = 6 ↔ z_sg z e 0 = 6) := nI_eq (b := 6) (by omega) (by omega)
      have tl : (z_sg z e 0 = k ∨ z_sg z e 0 = 6 ∧ k = 5) → bt J K (x6_tells F (24 + e) (nI k) S) (x8_mark_49 F (nI e) (nI k) T) := by
        intro hk
        unfold x6_tells x8_mark_49
        rcases (show k = 1 ∨ k = 2 ∨ k = 3 ∨ k = 4 ∨ k = 5 ∨ k = 6 ∨ k = 7 by omega) with rfl | rfl | rfl | rfl | rfl | rfl | rfl
        · rw [if_neg (by decide), if_pos (by decide), if_neg (by decide), if_pos (by decide), tt_on ho, tt_n, x_sgn hx he (by omega), e3, tt_cI, x_nearest hF (by have := hs.2; omega), m_nearest hF (by have := hs.2; omega), tt_cI, tt_cI]
          exact bt_same hz hx hm _
        · rw [if_neg (by decide), if_neg (by decide), if_pos (by decide), if_neg (by decide), if_neg (by decide), if_pos (by decide), tt_on ho, x_full hF hz (xk_of hx) he (by omega), m_full hF hz (mk_of hm) he (by omega), tt_cI, tt_cI]
          simp only [if_neg (show ¬ z_sg z e 0 = 4 by omega)]
          exact bt_same hz hx hm _
        · rw [if_neg (by decide), if_neg (by decide), if_neg (by decide), if_pos (by decide), if_neg (by decide), if_neg (by decide), if_neg (by decide), if_pos (by decide), tt_on ho, tt_n, x_sgn hx he (by omega), e1, tt_cI]
          exact bt_same hz hx hm _
        · rw [if_neg (by decide), if_neg (by decide), if_neg (by decide), if_neg (by decide), if_pos (by decide), if_neg (by decide), if_neg (by decide), if_neg (by decide), if_neg (by decide), if_pos (by decide), tt_on ho, x_cells hF hz (xk_of hx) he (by omega), m_full hF hz (mk_of hm) he (by omega), tt_cI, tt_cI]
          simp only [if_pos (show z_sg z e 0 = 4 by omega)]
          exact bt_same hz hx hm _
        · rw [if_neg (by decide), if_neg (by decide), if_neg (by decide), if_neg (by decide), if_neg (by decide), if_pos (by decide), if_neg (by decide), if_neg (by decide), if_neg (by decide), if_neg (by decide), if_neg (by decide), if_pos (by decide), tt_on ho, tt_n, x_sgn hx he (by omega), e2, tt_cI]
          exact bt_same hz hx hm _
        · rw [if_neg (by decide), if_neg (by decide), if_neg (by decide), if_neg (by decide), if_neg (by decide), if_neg (by decide), if_pos (by decide), if_neg (by decide), if_neg (by decide), if_neg (by decide), if_neg (by decide), if_neg (by decide), if_neg (by decide), if_pos (by decide), tt_on ho, tt_n, x_sgn hx he (by omega), e3, tt_cI]
          exact bt_same hz hx hm _
        · rw [if_pos (by decide), if_pos (by decide), tt_on ho, x_full hF hz (xk_of hx) he (by omega), m_full hF hz (mk_of hm) he (by omega), tt_cI, tt_cI]
          simp only [if_neg (show ¬ z_sg z e 0 = 4 by omega)]
          exact bt_same hz hx hm _
      have hi : ∀ b : Bool, (b = true ↔ (z_sg z e 0 = k ∨ z_sg z e 0 = 6 ∧ k = 5)) → x6_is F (24 + e) (nI k) S = some (nI (zi b), S) := by
        intro b hb
        unfold x6_is
        rw [tt_on ho, tt_n, tt_n, x_sgn hx he (by omega)]
        by_cases q1 : z_sg z e 0 = k
        · rw [if_pos ((hq k (by omega)).mpr q1), hb.mpr (Or.inl q1)]
          rfl
        · rw [if_neg (fun p => q1 ((hq k (by omega)).mp p))]
          by_cases q2 : z_sg z e 0 = 6
          · rw [if_pos (hq6.mpr q2)]
            by_cases q3 : k = 5
            · rw [if_pos (hq5.mpr q3), hb.mpr (Or.inr ⟨q2, q3⟩)]
              rfl
            · rw [if_neg (fun p => q3 (hq5.mp p)), show b = false from Bool.eq_false_iff.mpr (fun p => (by have := hb.mp p; omega))]
              rfl
          · rw [if_neg (fun p => q2 (hq6.mp p)), show b = false from Bool.eq_false_iff.mpr (fun p => (by have := hb.mp p; omega))]
            rfl
      by_cases q : z_sg z e 0 = k ∨ z_sg z e 0 = 6 ∧ k = 5
      · rw [hi true ⟨fun _ => q, fun _ => rfl⟩, tt_cI, if_neg (by decide), tt_rd (by omega) (by omega), tt_on ho, tt_eta]
        by_cases q1 : z_sg z e 0 = k
        · rw [if_pos ((hq k (by omega)).mpr q1)]
          exact tl q
        · rw [if_neg (fun p => q1 ((hq k (by omega)).mp p)), if_pos (hq5.mpr (by omega)), if_pos (hq6.mpr (by omega))]
          exact tl q
      · rw [hi false ⟨fun p => absurd p (by decide), fun p => absurd p q⟩, tt_cI, if_pos (by decide), x_f3, tt_cI, if_neg (fun p => q (Or.inl ((hq k (by omega)).mp p))), m_f3, tt_cI]
        have b := bt_fd hz hx hm (f := 3) (by omega)
        by_cases q3 : k = 5
        · rw [if_pos (hq5.mpr q3), if_neg (fun p => q (Or.inr ⟨hq6.mp p, q3⟩))]
          exact b
        · rw [if_neg (fun p => q3 (hq5.mp p))]
          exact b
    · rw [show x8_in F k 1 7 T = some (0, T) from m_inABN (a := 1) (b := 7) h (by omega) (by omega), tt_cI, if_pos p00]
      have b := bt_same hz hx hm (-1)
      by_cases q : k < 1
      · rw [if_pos q]
        exact b
      · rw [if_neg q, if_neg]
        · exact b
        · rw [tt_lt] at q
          rw [tt_le]
          simp only [Int32.reduceToInt] at q ⊢
          omega
  · rw [x_has0 hz hx h, m_has0 hz hm h]
    exact bt_same hz hx hm (-1)
