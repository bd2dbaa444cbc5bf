/-! ===== sides, the next cell, far, lies ===== -/
def zsv (x y : Int32) : Int32 := if sm_ab x < 2 * sm_ab y then (if sm_ab y < 2 * sm_ab x then (if x ≤ 0 then (if y ≤ 0 then 7 else 5) else (if y ≤ 0 then 1 else 3)) else (if y ≤ 0 then 0 else 4)) else (if x ≤ 0 then 6 else 2)
def zsd (c d : Nat) : Int32 := if d % 12 = c % 12 ∧ d / 12 = c / 12 then -9 else zsv (nI (d % 12) - nI (c % 12)) (nI (d / 12) - nI (c / 12))
/-! the class holds squares against one another -/
def zsq (x y : Int32) : Int32 := if x * x < (4 * y) * y then (if y * y < (4 * x) * x then (if x ≤ 0 then (if y ≤ 0 then 7 else 5) else (if y ≤ 0 then 1 else 3)) else (if y ≤ 0 then 0 else 4)) else (if x ≤ 0 then 6 else 2)
theorem x_sq {F : Nat} {x y : Int32} {S : sm_t} : x1_sideOn_31 F x y S = some (zsq x y, S) := by
  unfold x1_sideOn_31 zsq
  (repeat' split) <;> rfl
theorem sub_u : ∀ a, a < 12 → ∀ b, b < 12 → nI a - nI b = nI (a + 11 - b) - 11 := by decide +kernel
theorem zsq_t : ∀ u, u < 23 → ∀ v, v < 23 → zsq (nI u - 11) (nI v - 11) = zsv (nI u - 11) (nI v - 11) := by decide +kernel
theorem x_sv {F a b c d : Nat} {S : sm_t} (ha : a < 12) (hb : b < 12) (hc : c < 12) (hd : d < 12) : x1_sideOn_31 F (nI a - nI b) (nI c - nI d) S = some (zsv (nI a - nI b) (nI c - nI d), S) := by
  rw [x_sq, sub_u a ha b hb, sub_u c hc d hd, zsq_t _ (by omega) _ (by omega)]
theorem m_sv {F : Nat} {x y : Int32} {S : sm_t} (h : sm_ab x < 2 * sm_ab y → y ≠ 0) : x8_sideOf_31 F x y S = some (zsv x y, S) := by
  unfold x8_sideOf_31 zsv
  rw [ab_2, tt_cI, ab_2, tt_cI]
  by_cases q0 : sm_ab x < 2 * sm_ab y
  · have hy : (0 ≤ y) ↔ ¬ y ≤ 0 := by
      have h1 := h q0
      rw [Ne, tt_eq] at h1
      rw [tt_le, tt_le]
      simp only [Int32.reduceToInt] at h1 ⊢
      omega
    rw [if_pos q0, if_pos q0, ab_2, tt_cI, ab_2, tt_cI]
    by_cases q1 : sm_ab y < 2 * sm_ab x
    · by_cases q2 : x ≤ 0
      · by_cases q3 : y ≤ 0
        · rw [if_pos q1, if_pos q2, if_neg (fun q => hy.mp q q3), if_pos q1, if_pos q2, if_pos q3]
        · rw [if_pos q1, if_pos q2, if_pos (hy.mpr q3), if_pos q1, if_pos q2, if_neg q3]
      · by_cases q3 : y ≤ 0
        · rw [if_pos q1, if_neg q2, if_neg (fun q => hy.mp q q3), if_pos q1, if_neg q2, if_pos q3]
        · rw [if_pos q1, if_neg q2, if_pos (hy.mpr q3), if_pos q1, if_neg q2, if_neg q3]
    · by_cases q3 : y ≤ 0
      · rw [if_neg q1, if_neg (fun q => hy.mp q q3), if_neg q1, if_pos q3]
      · rw [if_neg q1, if_pos (hy.mpr q3), if_neg q1, if_neg q3]
  · by_cases q2 : x ≤ 0
    · rw [if_neg q0, if_pos q2, if_neg q0, if_pos q2]
    · rw [if_neg q0, if_neg q2, if_neg q0, if_neg q2]
theorem sub_0 {a b : Nat} (ha : a < 1000000) (hb : b < 1000000) : nI a - nI b = 0 ↔ a = b := by
  rw [tt_eq, pk_sub_toInt (by omega) (by omega)]
  simp only [Int32.reduceToInt]
  omega
theorem x_side {F c d : Nat} {S : sm_t} (hc : c < 120) (hd : d < 120) : x1_sideOn F (nI c) (nI d) S = some (zsd c d, S) := by
  unfold x1_sideOn zsd
  rw [tt_n, tt_n, tt_r12 (by omega), tt_r12 (by omega), tt_d12 (by omega), tt_d12 (by omega)]
  by_cases q0 : d % 12 = c % 12
  · rw [if_pos ((sub_0 (by omega) (by omega)).mpr q0)]
    by_cases q1 : d / 12 = c / 12
    · rw [if_pos ((sub_0 (by omega) (by omega)).mpr q1), if_pos ⟨q0, q1⟩]
    · rw [if_neg (fun q => q1 ((sub_0 (by omega) (by omega)).mp q)), if_neg (fun q => q1 q.2), x_sv (by omega) (by omega) (by omega) (by omega)]
  · rw [if_neg (fun q => q0 ((sub_0 (by omega) (by omega)).mp q)), if_neg (fun q => q0 q.1), x_sv (by omega) (by omega) (by omega) (by omega)]
theorem m_side {F c d : Nat} {S : sm_t} (hc : c < 1000000) (hd : d < 1000000) : x8_sideOf F (nI c) (nI d) S = some (zsd c d, S) := by
  have hy : sm_ab (nI (d % 12) - nI (c % 12)) < 2 * sm_ab (nI (d / 12) - nI (c / 12)) → nI (d / 12) - nI (c / 12) ≠ 0 := by
    intro q1 q2
    rw [q2, ab_1 (by omega) (by omega)] at q1
    exact nI_pos (by unfold zd; omega) q1
  unfold x8_sideOf zsd
  rw [tt_n, tt_n, tt_r12 hc, tt_r12 hd, tt_d12 hc, tt_d12 hd]
  by_cases q0 : d % 12 = c % 12
  · rw [if_pos ((sub_0 (by omega) (by omega)).mpr q0)]
    by_cases q1 : d / 12 = c / 12
    · rw [if_pos ((sub_0 (by omega) (by omega)).mpr q1), if_pos ⟨q0, q1⟩]
    · rw [if_neg (fun q => q1 ((sub_0 (by omega) (by omega)).mp q)), if_neg (fun q => q1 q.2), m_sv hy]
  · rw [if_neg (fun q => q0 ((sub_0 (by omega) (by omega)).mp q)), if_neg (fun q => q0 q.1), m_sv hy]
theorem q_far {z : zz} {J K S T : sm_t} (hz : zw z) (hx : xi z J S) (hm : mi z K T) {F : Nat} (c d : Int32) : bt J K (x7_far F c d S) (x8_far F c d T) := by
  unfold x7_far x8_far
  rcases tt_below c 120 (by omega) with ⟨c, hc, rfl⟩ | h
  · rw [x_cell1 hc, m_cell1 hc, tt_cI, tt_cI, if_neg (by decide), if_neg (by decide)]
    rcases tt_below d 120 (by omega) with ⟨d, hd, rfl⟩ | h
    · rw [x_cell1 hd, m_cell1 hd, tt_cI, tt_cI, if_neg (by decide), if_neg (by decide), x_side (by omega) (by omega), m_side (by omega) (by omega), tt_cI, tt_cI, tt_n, x_apart (by omega) (by omega), m_far (by omega) (by omega)]
      exact bt_ak hz hx hm _ _
    · rw [x_cell0 h, m_cell0 h]
      exact bt_same hz hx hm (-1)
  · rw [x_cell0 h, m_cell0 h]
    exact bt_same hz hx hm (-1)
/-! the next cell -/
def zx1 (s : Nat) : Nat := [1, 2, 2, 2, 1, 0, 0, 0].getD s 1
def zy1 (s : Nat) : Nat := [0, 0, 1, 2, 2, 2, 1, 0].getD s 1
def znx (c s : Nat) : Option Nat := if 1 ≤ c % 12 + zx1 s ∧ c % 12 + zx1 s ≤ 12 ∧ 1 ≤ c / 12 + zy1 s ∧ c / 12 + zy1 s ≤ 10 then some (12 * (c / 12 + zy1 s - 1) + (c % 12 + zx1 s - 1)) else none
def pb (v2 v4 : Int32) : Int32 := if v2 < 0 then -9 else if 12 ≤ v2 then -9 else if v4 < 0 then -9 else if v4 < 10 then v4 * 12 + v2 else -9
theorem pb_1 : ∀ c, c < 120 → ∀ s, s < 8 → pb (sm_ir (nI c) 12 + sm_sx s) (nI c / 12 + sm_sy s) = z_m (znx c s) := by decide +kernel
theorem x_beside {F c s : Nat} {S : sm_t} (hc : c < 120) (hs : s < 8) : x1_beside F (nI c) (nI s) S = some (z_m (znx c s), S) := by
  unfold x1_beside
  rw [tt_rd hs (by omega), tt_n, tt_rd hs (by omega), tt_n, ← pb_1 c hc s hs]
  unfold pb
  by_cases q0 : sm_ir (nI c) 12 + sm_sx s < 0
  · rw [if_pos q0, if_pos q0]
  · rw [if_neg q0, if_neg q0]
    by_cases q1 : 12 ≤ sm_ir (nI c) 12 + sm_sx s
    · rw [if_pos q1, if_pos q1]
    · rw [if_neg q1, if_neg q1]
      by_cases q2 : nI c / 12 + sm_sy s < 0
      · rw [if_pos q2, if_pos q2]
      · rw [if_neg q2, if_neg q2]
        by_cases q3 : nI c / 12 + sm_sy s < 10
        · rw [if_pos q3, if_pos q3]
        · rw [if_neg q3, if_neg q3]
def pin (x a b : Int32) : Int32 := if x < a then 0 else if b < x then 0 else 1
theorem m_pin {F : Nat} {x a b : Int32} {S : sm_t} : x8_in F x a b S = some (pin x a b, S) := m_in
def p71 (l2 t0 t1 : Int32) : Int32 := if pin l2 0 11 = 0 then -9 else if pin (t0 + t1) 0 9 = 0 then -9 else 12 * (t0 + t1) + l2
theorem m_p71 {F : Nat} {a b c : Int32} {S : sm_t} : x8_nextOf_71 F a b c S = some (p71 a b c, S) := by
  unfold x8_nextOf_71 p71
  rw [tt_n, m_pin, tt_cI]
  split
  · rfl
  · rw [m_pin, tt_cI]
    split <;> rfl
def p32 (l0 l1 v : Int32) : Int32 := if pin l1 3 5 = 0 then (if l1 = 0 then p71 v (l0 / 12) (-1) else if l1 = 1 then p71 v (l0 / 12) (-1) else if l1 = 7 then p71 v (l0 / 12) (-1) else p71 v (l0 / 12) 0) else p71 v (l0 / 12) 1
theorem m_p32 {F : Nat} {l0 l1 t0 t1 : Int32} {S : sm_t} : x8_nextOf_32 F l0 l1 t0 t1 S = some (p32 l0 l1 (t0 + t1), S) := by
  unfold x8_nextOf_32 p32 x8_nextOf_66
  rw [tt_n, m_pin, tt_cI, m_p71, m_p71, m_p71]
  split
  · split
    · rfl
    · split
      · rfl
      · split <;> rfl
  · rfl
def pnx (l0 l1 : Int32) : Int32 := if pin l1 1 3 = 0 then (if pin l1 5 7 = 0 then p32 l0 l1 (sm_ir l0 12 + 0) else p32 l0 l1 (sm_ir l0 12 + (-1))) else p32 l0 l1 (sm_ir l0 12 + 1)
theorem m_pnx {F : Nat} {l0 l1 : Int32} {S : sm_t} : x8_nextOf F l0 l1 S = some (pnx l0 l1, S) := by
  unfold x8_nextOf pnx
  rw [m_pin, tt_cI]
  split
  · rw [m_pin, tt_cI, m_p32, m_p32]
    split <;> rfl
  · rw [m_p32]
theorem pnx_1 : ∀ c, c < 120 → ∀ s, s < 8 → pnx (nI c) (nI s) = z_m (znx c s) := by decide +kernel
theorem m_next {F c s : Nat} {S : sm_t} (hc : c < 120) (hs : s < 8) : x8_nextOf F (nI c) (nI s) S = some (z_m (znx c s), S) := by
  rw [m_pnx, pnx_1 c hc s hs]
theorem znx_lt : ∀ c, c < 120 → ∀ s, s < 8 → ∀ d, znx c s = some d → d < 120 := by
  intro c hc s hs d h
  unfold znx at h
  split at h
  · cases h
    omega
  · cases h
def zgo (c s : Nat) : Nat := match znx c s with
  | some d => d
  | none => c
theorem zgo_lt {c s : Nat} (hc : c < 120) (hs : s < 8) : zgo c s < 120 := by
  unfold zgo
  split
  · exact znx_lt c hc s hs _ (by assumption)
  · exact hc
theorem x_gone {F c s : Nat} {S : sm_t} (hc : c < 120) (hs : s < 8) : x1_gone F (nI c) (nI s) S = some (nI (zgo c s), S) := by
  unfold x1_gone zgo
  rw [x_beside hc hs, tt_cI]
  cases h : znx c s with
  | none => rfl
  | some d =>
    have hd := znx_lt c hc s hs d h
    rw [if_neg]
    · rfl
    · rw [tt_eq]
      change ¬ (nI d).toInt = -9
      rw [tt_nI (by omega)]
      omega
theorem m_goes {F c s : Nat} {S : sm_t} (hc : c < 120) (hs : s < 8) : x8_goesTo F (nI c) (nI s) S = some (nI (zgo c s), S) := by
  unfold x8_goesTo zgo
  rw [m_next hc hs, tt_cI]
  cases h : znx c s with
  | none => rfl
  | some d =>
    have hd := znx_lt c hc s hs d h
    rw [if_pos]
    · rfl
    · exact nI_pos' (n := d) (by omega)
