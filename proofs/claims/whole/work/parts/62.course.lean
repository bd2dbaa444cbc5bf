/-! ===== course, plan, far ===== -/
def zf (z : zz) (k : Nat) : Int32 := if k = 0 then nI (z_ce z) else if k = 1 then nI (z_ho z) else if k < 8 then (if k - 2 < z_ho z then nI (z_co z (k - 2)) else -9) else (if k - 8 ≤ z_ho z then nI (z_en z (k - 8)) else -9)
theorem x_number {F k : Nat} {z : zz} {J S : sm_t} (hz : zw z) (h : xi z J S) (hk : k < 15) : x3_number F (nI k) S = some (zf z k, S) := by
  have h5 := h.2.2.2.2.2.1
  have hh := hz.2.2.1.2.1
  unfold x3_number zf
  by_cases k0 : k = 0
  · subst k0
    rw [if_pos (by decide), if_pos rfl, tt_n, h5.1]
  · rw [if_neg (nI_ne0 (by omega) (by omega)), if_neg k0]
    by_cases k1 : k = 1
    · subst k1
      rw [if_pos (by decide), if_pos rfl, tt_n, h5.2.1]
    · rw [if_neg (show ¬ nI k = 1 from fun q => k1 ((nI_eq (b := 1) (by omega) (by omega)).mp q)), if_neg k1]
      by_cases k8 : k < 8
      · rw [if_neg (show ¬ (8 : Int32) ≤ nI k from nI_ge (b := 8) k8 (by omega)), if_pos k8, tt_n, show nI k - 2 = nI (k - 2) from pk_sub (b := 2) (by omega), if_neg (nI_pos (by omega)), tt_n, h5.2.1]
        by_cases q : k - 2 < z_ho z
        · rw [if_neg (nI_ge q (by omega)), tt_r _ (h5.2.2.1 _ q) (by omega) (by omega), if_pos q]
        · rw [if_pos (nI_le (by omega) (by omega)), if_neg q]
      · rw [if_pos (show (8 : Int32) ≤ nI k from nI_le (a := 8) (by omega) (by omega)), if_neg k8, tt_n, show nI k - 8 = nI (k - 8) from pk_sub (b := 8) (by omega), tt_n, h5.2.1]
        by_cases q : k - 8 ≤ z_ho z
        · rw [if_neg (nI_nlt q (by omega)), tt_r _ (h5.2.2.2 _ q) (by omega) (by omega), if_pos q]
        · rw [if_pos (nI_lt (by omega) (by omega)), if_neg q]
theorem m_number {k : Nat} {z : zz} {J S : sm_t} (h : mi z J S) (hk : k < 15) : S.1 59 k = zf z k := by
  have h5 := h.2.2.2.2.2.1
  unfold zf
  by_cases k0 : k = 0
  · rw [if_pos k0, k0]
    exact h5.1
  · rw [if_neg k0]
    by_cases k1 : k = 1
    · rw [if_pos k1, k1]
      exact h5.2.1
    · rw [if_neg k1]
      by_cases k8 : k < 8
      · rw [if_pos k8, ← h5.2.2.1 (k - 2) (by omega), show 2 + (k - 2) = k by omega]
      · rw [if_neg k8, ← h5.2.2.2 (k - 8) (by omega), show 8 + (k - 8) = k by omega]
theorem q_plan {z : zz} {J K S T : sm_t} (hz : zw z) (hx : xi z J S) (hm : mi z K T) {F : Nat} (k : Int32) : bt J K (x7_plan F k S) (x8_plan F k T) := by
  unfold x7_plan x8_plan
  rw [show (14 : Int32) = nI 14 from rfl]
  rcases tt_below k 15 (by omega) with ⟨k, hk, rfl⟩ | h
  · rw [x_wi1 (by omega) (by omega), m_in1 (by omega) (by omega), tt_cI, tt_cI, if_neg (by decide), if_neg (by decide), x_number hz hx hk, tt_cI, tt_n, tt_r _ (m_number hm hk) hk (by omega)]
    exact bt_ak hz hx hm _ _
  · rw [x_wiN (by omega) (by omega), m_inN (by omega) (by omega)]
    exact bt_same hz hx hm (-1)
theorem m_hours {F : Nat} {z : zz} {J S : sm_t} (h : mi z J S) : x8_hours F S = some (nI (z_ho z), S) := by
  unfold x8_hours
  rw [tr_1 _ (by omega) (by omega), h.2.2.2.2.2.1.2.1]
theorem m_courseOf {F k : Nat} {z : zz} {J S : sm_t} (hz : zw z) (h : mi z J S) (hk : k < z_ho z) : x8_courseOf F (nI k) S = some (nI (z_co z k), S) := by
  have hh := hz.2.2.1.2.1
  unfold x8_courseOf
  rw [tk_a2, tt_r _ (h.2.2.2.2.2.1.2.2.1 k (by omega)) (by omega) (by omega), if_pos hk]
theorem q_course {z : zz} {J K S T : sm_t} (hz : zw z) (hx : xi z J S) (hm : mi z K T) {F : Nat} (k s : Int32) : bt J K (x7_course F k s S) (x8_course F k s T) := by
  have hh := hz.2.2.1.2.1
  have hx5 := hx.2.2.2.2.2.1
  have hm5 := hm.2.2.2.2.2.1
  unfold x7_course x8_course
  rw [tt_n, hx5.2.1, m_hours hm, tt_cI]
  have e1 : (nI (z_ho z) - 1).toInt = (z_ho z : Int) - 1 := pk_sub_toInt (b := 1) (by omega) (by omega)
  rcases tt_below k (z_ho z) (by omega) with ⟨k, hk, rfl⟩ | h
  · have e2 : x8_in F (nI k) 0 (nI (z_ho z) - 1) T = some (1, T) := by
      rw [m_in, if_neg (nI_pos (by omega)), if_neg]
      rw [tt_lt, e1, tt_nI (by omega)]
      omega
    rw [if_neg (nI_pos (by omega)), if_neg (nI_ge hk (by omega)), e2, tt_cI, if_neg (by decide)]
    rcases tt_side s with ⟨s, hs, rfl⟩ | h
    · rw [x_side1 hs, m_side1 hs, tt_cI, tt_cI, if_neg (by decide), if_neg (by decide), tt_r _ (hx5.2.2.1 k hk) (by omega) (by omega), tt_wr (by omega) (by omega), m_courseOf hz hm hk, tt_cI, tk_a2, tt_wr (by omega) (by omega)]
      refine ⟨_, zq_fl z (z_ce z, z_ho z, (fun h => if h = k then s else z_co z h), z_en z), _, _, rfl, rfl, zw_fl hz ⟨hz.2.2.1.1, hh, fun m hm => ?_, hz.2.2.1.2.2.2⟩, xc_fl _ hz hx (fun b hb => tt_1 (by omega)) rfl ⟨?_, ?_, fun m hk => ?_, fun m hk => ?_⟩, mc_fl _ hm (fun b hb => tt_1 (by omega)) rfl ⟨?_, ?_, fun m hk => ?_, fun m hk => ?_⟩⟩
      · split
        · exact hs
        · exact hz.2.2.1.2.2.1 m hm
      · rw [tt_1 (by omega)]
        exact hx5.1
      · rw [tt_1 (by omega)]
        exact hx5.2.1
      · rw [tt_1s]
        change _ = nI (if m = k then s else z_co z m)
        split
        · rfl
        · exact hx5.2.2.1 m hk
      · rw [tt_1 (by omega)]
        exact hx5.2.2.2 m hk
      · rw [tt_1s, if_neg (by omega)]
        exact hm5.1
      · rw [tt_1s, if_neg (by omega)]
        exact hm5.2.1
      · rw [tt_1s]
        change _ = if m < z_ho z then nI (if m = k then s else z_co z m) else -9
        by_cases q : m = k
        · rw [if_pos (by omega), if_pos (by omega), if_pos q]
        · rw [if_neg (by omega), if_neg q]
          exact hm5.2.2.1 m hk
      · rw [tt_1s, if_neg (by omega)]
        exact hm5.2.2.2 m hk
    · rw [x_side0 h, m_side0 h]
      exact bt_same hz hx hm (-1)
  · have e2 : x8_in F k 0 (nI (z_ho z) - 1) T = some (0, T) := by
      rw [m_in]
      by_cases q : k.toInt < 0
      · rw [if_pos (by rw [tt_lt]; exact q)]
      · rw [if_neg (by rw [tt_lt]; exact q), if_pos (by rw [tt_lt, e1]; omega)]
    rw [e2]
    by_cases q : k.toInt < 0
    · rw [if_pos (by rw [tt_lt]; exact q)]
      exact bt_same hz hx hm (-1)
    · rw [if_neg (by rw [tt_lt]; exact q), if_pos (by rw [tt_le, tt_nI (by omega)]; omega)]
      exact bt_same hz hx hm (-1)
/-! how far, on which side -/
def zd (a b : Nat) : Nat := (a - b) + (b - a)
theorem ab_1 {a b : Nat} (ha : a < 1000000) (hb : b < 1000000) : sm_ab (nI a - nI b) = nI (zd a b) := by
  unfold sm_ab zd
  by_cases q : b ≤ a
  · rw [pk_sub q, if_pos (nI_pos' (by omega)), show a - b + (b - a) = a - b by omega]
  · rw [if_neg, Int32.zero_sub, Int32.neg_sub, pk_sub (by omega), show a - b + (b - a) = b - a by omega]
    rw [tt_le, pk_sub_toInt (by omega) (by omega)]
    simp only [Int32.reduceToInt]
    omega
theorem ab_2 {F : Nat} {x : Int32} {S : sm_t} : x8_abs F x S = some (sm_ab x, S) := by
  unfold x8_abs sm_ab
  rw [Int32.zero_sub]
  split <;> rfl
def zfar (c d : Nat) : Nat := max (zd (c % 12) (d % 12)) (zd (c / 12) (d / 12))
theorem zd_c (a b : Nat) : zd a b = zd b a := by
  unfold zd
  omega
theorem tt_r12 {c : Nat} (hc : c < 1000000) : sm_ir (nI c) 12 = nI (c % 12) := pk_rem (d := 12) (by omega) (by omega) (by omega)
theorem tt_d12 {c : Nat} (hc : c < 1000000) : nI c / 12 = nI (c / 12) := pk_div (d := 12) (by omega) (by omega) (by omega)
theorem x_apart {F c d : Nat} {S : sm_t} (hc : c < 1000000) (hd : d < 1000000) : x1_apart F (nI c) (nI d) S = some (nI (zfar c d), S) := by
  unfold x1_apart zfar
  rw [tt_n, tt_n, tt_r12 hc, tt_r12 hd, tt_d12 hc, tt_d12 hd, ab_1 (by omega) (by omega), ab_1 (by omega) (by omega)]
  unfold sm_mx
  rw [zd_c (c % 12), zd_c (c / 12)]
  by_cases q : zd (d % 12) (c % 12) < zd (d / 12) (c / 12)
  · rw [if_pos (nI_lt q (by unfold zd; omega)), Nat.max_eq_right (by omega)]
  · rw [if_neg (nI_nlt (by omega) (by unfold zd; omega)), Nat.max_eq_left (by omega)]
theorem m_far {F c d : Nat} {S : sm_t} (hc : c < 1000000) (hd : d < 1000000) : x8_farOf F (nI c) (nI d) S = some (nI (zfar c d), S) := by
  unfold x8_farOf zfar
  rw [ab_2, tt_cI, ab_2, tt_cI, tt_r12 hc, tt_r12 hd, tt_d12 hc, tt_d12 hd, ab_1 (by omega) (by omega), ab_1 (by omega) (by omega)]
  by_cases q : zd (c % 12) (d % 12) ≤ zd (c / 12) (d / 12)
  · rw [if_pos (nI_le q (by unfold zd; omega)), Nat.max_eq_right q]
  · rw [if_neg (nI_ge (by omega) (by unfold zd; omega)), Nat.max_eq_left (by omega)]
