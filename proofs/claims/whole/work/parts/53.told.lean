/-! ===== what is told: findings, asked; the first calls ===== -/
def bt (J K : sm_t) (o7 o8 : Option (Int32 × sm_t)) : Prop := ∃ v z1 S1 T1, o7 = some (v, S1) ∧ o8 = some (v, T1) ∧ zw z1 ∧ xi z1 J S1 ∧ mi z1 K T1
def bl (J K : sm_t) (o7 o8 : Option (Int64 × sm_t)) : Prop := ∃ v z1 S1 T1, o7 = some (v, S1) ∧ o8 = some (v, T1) ∧ zw z1 ∧ xi z1 J S1 ∧ mi z1 K T1
theorem tt_eta (o : Option (Int32 × sm_t)) : sm_cI o (fun v S => some (v, S)) = o := by
  cases o <;> rfl
def xfd (S : sm_t) (f : Nat) : sm_t := sm_wI (sm_wI S 3 14 (nI f)) 51 f (S.1 51 f + 1)
def mfd (S : sm_t) (f : Nat) : sm_t := sm_wI (sm_wI S 52 0 (nI f)) 53 f (S.1 53 f + 1)
theorem x_found {F f : Nat} {S : sm_t} (hf : f < 6) : x7_found F (nI f) S = some (-3, xfd S f) := by
  unfold x7_found
  simp (disch := omega) only [tt_n, tt_rd, tt_wr]
  rw [tt_1 (by omega)]
  rfl
theorem m_found {F f : Nat} {S : sm_t} (hf : f < 6) : x8_meets F (nI f) S = some (-3, mfd S f) := by
  unfold x8_meets
  simp (disch := omega) only [tt_n, tt_rd, tt_wr]
  rw [tt_1 (by omega)]
  rfl
theorem x_f1 {F : Nat} {S : sm_t} : x7_found F 1 S = some (-3, xfd S 1) := x_found (f := 1) (by omega)
theorem x_f2 {F : Nat} {S : sm_t} : x7_found F 2 S = some (-3, xfd S 2) := x_found (f := 2) (by omega)
theorem x_f3 {F : Nat} {S : sm_t} : x7_found F 3 S = some (-3, xfd S 3) := x_found (f := 3) (by omega)
theorem x_f4 {F : Nat} {S : sm_t} : x7_found F 4 S = some (-3, xfd S 4) := x_found (f := 4) (by omega)
theorem x_f5 {F : Nat} {S : sm_t} : x7_found F 5 S = some (-3, xfd S 5) := x_found (f := 5) (by omega)
theorem m_f1 {F : Nat} {S : sm_t} : x8_meets F 1 S = some (-3, mfd S 1) := m_found (f := 1) (by omega)
theorem m_f2 {F : Nat} {S : sm_t} : x8_meets F 2 S = some (-3, mfd S 2) := m_found (f := 2) (by omega)
theorem m_f3 {F : Nat} {S : sm_t} : x8_meets F 3 S = some (-3, mfd S 3) := m_found (f := 3) (by omega)
theorem m_f4 {F : Nat} {S : sm_t} : x8_meets F 4 S = some (-3, mfd S 4) := m_found (f := 4) (by omega)
theorem m_f5 {F : Nat} {S : sm_t} : x8_meets F 5 S = some (-3, mfd S 5) := m_found (f := 5) (by omega)
theorem zw_fd {z : zz} {f : Nat} (hz : zw z) : zw (zq_fd z f) := hz
theorem zw_ak {z : zz} {v : Int32} (hz : zw z) : zw (zq_ak z v) := hz
theorem zw_ul {z : zz} {u l : Int64} (hz : zw z) : zw (zq_ul z u l) := hz
theorem xi_fd {z : zz} {J S : sm_t} {f : Nat} (hz : zw z) (h : xi z J S) (hf : f < 6) : xi (zq_fd z f) J (xfd S f) := by
  have h8 := h.2.2.2.2.2.2.2.2.1
  refine xc_tl hz h (fun b hb => ?_) (fun b hb => rfl) rfl rfl ⟨?_, h8.2.1, h8.2.2.1, ?_, fun k hk => ?_⟩
  · unfold xfd
    rw [tt_1 (by omega), tt_1 (by omega)]
  · unfold xfd
    rw [tt_1 (by omega), tt_1s, if_neg (by omega)]
    exact h8.1
  · unfold xfd
    rw [tt_1 (by omega), tt_1s, if_pos rfl]
    rfl
  · unfold xfd
    rw [tt_1s, tt_1 (by omega), h8.2.2.2.2 f hf, h8.2.2.2.2 k hk]
    rfl
theorem mi_fd {z : zz} {J S : sm_t} {f : Nat} (h : mi z J S) (hf : f < 6) : mi (zq_fd z f) J (mfd S f) := by
  have h8 := h.2.2.2.2.2.2.2.2.1
  refine mc_tl h (fun b hb => ?_) (fun i hi => ?_) (fun b hb => rfl) rfl rfl ⟨?_, h8.2.1, h8.2.2.1, ?_, fun k hk => ?_⟩
  · unfold mfd
    rw [tt_1 (by omega), tt_1 (by omega)]
  · unfold mfd
    rw [tt_1 (by omega), tt_1s, if_neg (by omega)]
  · unfold mfd
    rw [tt_1 (by omega), tt_1s, if_neg (by omega)]
    exact h8.1
  · unfold mfd
    rw [tt_1 (by omega), tt_1s, if_pos rfl]
    rfl
  · unfold mfd
    rw [tt_1s, tt_1 (by omega), h8.2.2.2.2 f hf, h8.2.2.2.2 k hk]
    rfl
theorem xi_ak {z : zz} {J S : sm_t} {v : Int32} (hz : zw z) (h : xi z J S) : xi (zq_ak z v) J (sm_wI S 3 11 v) := by
  have h8 := h.2.2.2.2.2.2.2.2.1
  refine xc_tl hz h (fun b hb => tt_1 (by omega)) (fun b hb => rfl) rfl rfl ⟨?_, h8.2.1, h8.2.2.1, ?_, fun k hk => ?_⟩
  · rw [tt_1s, if_pos rfl]
    rfl
  · rw [tt_1s, if_neg (by omega)]
    exact h8.2.2.2.1
  · rw [tt_1 (by omega)]
    exact h8.2.2.2.2 k hk
theorem mi_ak {z : zz} {J S : sm_t} {v : Int32} (h : mi z J S) : mi (zq_ak z v) J (sm_wI S 52 2 v) := by
  have h8 := h.2.2.2.2.2.2.2.2.1
  refine mc_tl h (fun b hb => tt_1 (by omega)) (fun i hi => ?_) (fun b hb => rfl) rfl rfl ⟨?_, h8.2.1, h8.2.2.1, ?_, fun k hk => ?_⟩
  · rw [tt_1s, if_neg (by omega)]
  · rw [tt_1s, if_pos rfl]
    rfl
  · rw [tt_1s, if_neg (by omega)]
    exact h8.2.2.2.1
  · rw [tt_1 (by omega)]
    exact h8.2.2.2.2 k hk
theorem bt_fd {z : zz} {J K S T : sm_t} (hz : zw z) (hx : xi z J S) (hm : mi z K T) {f : Nat} (hf : f < 6) : bt J K (some (-3, xfd S f)) (some (-3, mfd T f)) := ⟨_, zq_fd z f, _, _, rfl, rfl, zw_fd hz, xi_fd hz hx hf, mi_fd hm hf⟩
theorem bt_same {z : zz} {J K S T : sm_t} (hz : zw z) (hx : xi z J S) (hm : mi z K T) (v : Int32) : bt J K (some (v, S)) (some (v, T)) := ⟨_, z, _, _, rfl, rfl, hz, hx, hm⟩
theorem bt_ak {z : zz} {J K S T : sm_t} (hz : zw z) (hx : xi z J S) (hm : mi z K T) (u v : Int32) : bt J K (some (v, sm_wI S 3 11 u)) (some (v, sm_wI T 52 2 u)) := ⟨_, zq_ak z u, _, _, rfl, rfl, zw_ak hz, xi_ak hz hx, mi_ak hm⟩
theorem x_ak2 {F : Nat} {u v : Int32} {S : sm_t} : x8_ask F u v S = some (v, sm_wI S 52 2 u) := rfl
/-! ints that are whole numbers -/
theorem tk_m1 (b : Nat) : (1 : Int32) * nI b = nI (1 * b) := pk_mul 1 b
theorem tk_n1 (b : Nat) : nI b * (1 : Int32) = nI (b * 1) := pk_mul b 1
theorem tk_a1 (b : Nat) : (1 : Int32) + nI b = nI (1 + b) := nI_add 1 b
theorem tk_b1 (b : Nat) : nI b + (1 : Int32) = nI (b + 1) := nI_add b 1
theorem tk_m2 (b : Nat) : (2 : Int32) * nI b = nI (2 * b) := pk_mul 2 b
theorem tk_n2 (b : Nat) : nI b * (2 : Int32) = nI (b * 2) := pk_mul b 2
theorem tk_a2 (b : Nat) : (2 : Int32) + nI b = nI (2 + b) := nI_add 2 b
theorem tk_b2 (b : Nat) : nI b + (2 : Int32) = nI (b + 2) := nI_add b 2
theorem tk_m3 (b : Nat) : (3 : Int32) * nI b = nI (3 * b) := pk_mul 3 b
theorem tk_n3 (b : Nat) : nI b * (3 : Int32) = nI (b * 3) := pk_mul b 3
theorem tk_a3 (b : Nat) : (3 : Int32) + nI b = nI (3 + b) := nI_add 3 b
theorem tk_b3 (b : Nat) : nI b + (3 : Int32) = nI (b + 3) := nI_add b 3
theorem tk_m4 (b : Nat) : (4 : Int32) * nI b = nI (4 * b) := pk_mul 4 b
theorem tk_n4 (b : Nat) : nI b * (4 : Int32) = nI (b * 4) := pk_mul b 4
theorem tk_a4 (b : Nat) : (4 : Int32) + nI b = nI (4 + b) := nI_add 4 b
theorem tk_b4 (b : Nat) : nI b + (4 : Int32) = nI (b + 4) := nI_add b 4
theorem tk_m5 (b : Nat) : (5 : Int32) * nI b = nI (5 * b) := pk_mul 5 b
theorem tk_n5 (b : Nat) : nI b * (5 : Int32) = nI (b * 5) := pk_mul b 5
theorem tk_a5 (b : Nat) : (5 : Int32) + nI b = nI (5 + b) := nI_add 5 b
theorem tk_b5 (b : Nat) : nI b + (5 : Int32) = nI (b + 5) := nI_add b 5
theorem tk_m7 (b : Nat) : (7 : Int32) * nI b = nI (7 * b) := pk_mul 7 b
theorem tk_n7 (b : Nat) : nI b * (7 : Int32) = nI (b * 7) := pk_mul b 7
theorem tk_a7 (b : Nat) : (7 : Int32) + nI b = nI (7 + b) := nI_add 7 b
theorem tk_b7 (b : Nat) : nI b + (7 : Int32) = nI (b + 7) := nI_add b 7
theorem tk_m8 (b : Nat) : (8 : Int32) * nI b = nI (8 * b) := pk_mul 8 b
theorem tk_n8 (b : Nat) : nI b * (8 : Int32) = nI (b * 8) := pk_mul b 8
theorem tk_a8 (b : Nat) : (8 : Int32) + nI b = nI (8 + b) := nI_add 8 b
theorem tk_b8 (b : Nat) : nI b + (8 : Int32) = nI (b + 8) := nI_add b 8
theorem tk_m10 (b : Nat) : (10 : Int32) * nI b = nI (10 * b) := pk_mul 10 b
theorem tk_n10 (b : Nat) : nI b * (10 : Int32) = nI (b * 10) := pk_mul b 10
theorem tk_a10 (b : Nat) : (10 : Int32) + nI b = nI (10 + b) := nI_add 10 b
theorem tk_b10 (b : Nat) : nI b + (10 : Int32) = nI (b + 10) := nI_add b 10
theorem tk_m12 (b : Nat) : (12 : Int32) * nI b = nI (12 * b) := pk_mul 12 b
theorem tk_n12 (b : Nat) : nI b * (12 : Int32) = nI (b * 12) := pk_mul b 12
theorem tk_a12 (b : Nat) : (12 : Int32) + nI b = nI (12 + b) := nI_add 12 b
theorem tk_b12 (b : Nat) : nI b + (12 : Int32) = nI (b + 12) := nI_add b 12
theorem tk_m16 (b : Nat) : (16 : Int32) * nI b = nI (16 * b) := pk_mul 16 b
theorem tk_n16 (b : Nat) : nI b * (16 : Int32) = nI (b * 16) := pk_mul b 16
theorem tk_a16 (b : Nat) : (16 : Int32) + nI b = nI (16 + b) := nI_add 16 b
theorem tk_b16 (b : Nat) : nI b + (16 : Int32) = nI (b + 16) := nI_add b 16
theorem tk_m32 (b : Nat) : (32 : Int32) * nI b = nI (32 * b) := pk_mul 32 b
theorem tk_n32 (b : Nat) : nI b * (32 : Int32) = nI (b * 32) := pk_mul b 32
theorem tk_a32 (b : Nat) : (32 : Int32) + nI b = nI (32 + b) := nI_add 32 b
theorem tk_b32 (b : Nat) : nI b + (32 : Int32) = nI (b + 32) := nI_add b 32
theorem tk_m40 (b : Nat) : (40 : Int32) * nI b = nI (40 * b) := pk_mul 40 b
theorem tk_n40 (b : Nat) : nI b * (40 : Int32) = nI (b * 40) := pk_mul b 40
theorem tk_a40 (b : Nat) : (40 : Int32) + nI b = nI (40 + b) := nI_add 40 b
theorem tk_b40 (b : Nat) : nI b + (40 : Int32) = nI (b + 40) := nI_add b 40
theorem tk_m48 (b : Nat) : (48 : Int32) * nI b = nI (48 * b) := pk_mul 48 b
theorem tk_n48 (b : Nat) : nI b * (48 : Int32) = nI (b * 48) := pk_mul b 48
theorem tk_a48 (b : Nat) : (48 : Int32) + nI b = nI (48 + b) := nI_add 48 b
theorem tk_b48 (b : Nat) : nI b + (48 : Int32) = nI (b + 48) := nI_add b 48
theorem tk_m80 (b : Nat) : (80 : Int32) * nI b = nI (80 * b) := pk_mul 80 b
theorem tk_n80 (b : Nat) : nI b * (80 : Int32) = nI (b * 80) := pk_mul b 80
theorem tk_a80 (b : Nat) : (80 : Int32) + nI b = nI (80 + b) := nI_add 80 b
theorem tk_b80 (b : Nat) : nI b + (80 : Int32) = nI (b + 80) := nI_add b 80
theorem tk_m100 (b : Nat) : (100 : Int32) * nI b = nI (100 * b) := pk_mul 100 b
theorem tk_n100 (b : Nat) : nI b * (100 : Int32) = nI (b * 100) := pk_mul b 100
theorem tk_a100 (b : Nat) : (100 : Int32) + nI b = nI (100 + b) := nI_add 100 b
theorem tk_b100 (b : Nat) : nI b + (100 : Int32) = nI (b + 100) := nI_add b 100
theorem tk_m120 (b : Nat) : (120 : Int32) * nI b = nI (120 * b) := pk_mul 120 b
theorem tk_n120 (b : Nat) : nI b * (120 : Int32) = nI (b * 120) := pk_mul b 120
theorem tk_a120 (b : Nat) : (120 : Int32) + nI b = nI (120 + b) := nI_add 120 b
theorem tk_b120 (b : Nat) : nI b + (120 : Int32) = nI (b + 120) := nI_add b 120
theorem tk_m1000 (b : Nat) : (1000 : Int32) * nI b = nI (1000 * b) := pk_mul 1000 b
theorem tk_n1000 (b : Nat) : nI b * (1000 : Int32) = nI (b * 1000) := pk_mul b 1000
theorem tk_a1000 (b : Nat) : (1000 : Int32) + nI b = nI (1000 + b) := nI_add 1000 b
theorem tk_b1000 (b : Nat) : nI b + (1000 : Int32) = nI (b + 1000) := nI_add b 1000
/-! which arguments are what -/
theorem m_in {F : Nat} {x a b : Int32} {S : sm_t} : x8_in F x a b S = some (if x < a then 0 else if b < x then 0 else 1, S) := by
  unfold x8_in
  split
  · rfl
  · split <;> rfl
theorem m_in0 {F n b : Nat} {S : sm_t} (hb : b < 2147483648) (hn : n < 2147483648) : x8_in F (nI n) 0 (nI b) S = some (if n ≤ b then 1 else 0, S) := by
  rw [m_in]
  by_cases h : n ≤ b
  · simp (disch := omega) only [tt_lt, tt_nI, Int32.reduceToInt, if_pos, if_neg]
  · simp (disch := omega) only [tt_lt, tt_nI, Int32.reduceToInt, if_pos, if_neg]
theorem tt_below (x : Int32) (n : Nat) (hn : n < 2147483648) : (∃ j : Nat, j < n ∧ x = nI j) ∨ (x.toInt < 0 ∨ (n : Int) ≤ x.toInt) := by
  by_cases h : sm_ix x n = true
  · exact Or.inl (tt_of h (by omega))
  · rw [tt_ix] at h
    right
    omega
theorem x_row1 {F r : Nat} {S : sm_t} (h : r < 6) : x7_isRow F (nI r) S = some (1, S) := by
  unfold x7_isRow
  simp (disch := omega) only [tt_n, tt_cI, tt_cL, tt_cV, tt_rd, tt_wr, tt_wl, tt_le, tt_lt, tt_eq, tt_nI, if_pos, if_neg, tt_eta, ↓reduceIte, Int32.reduceToInt]
theorem x_row0 {F : Nat} {x : Int32} {S : sm_t} (h : x.toInt < 0 ∨ 6 ≤ x.toInt) : x7_isRow F x S = some (0, S) := by
  unfold x7_isRow
  by_cases h1 : x < 0
  · rw [if_pos h1]
  · rw [if_neg h1, if_pos]
    rw [tt_lt] at h1
    rw [tt_le]
    simp only [Int32.reduceToInt] at h1 ⊢
    omega
theorem m_row1 {F r : Nat} {S : sm_t} (h : r < 6) : x8_isRow F (nI r) S = some (1, S) := by
  unfold x8_isRow
  rw [show (5 : Int32) = nI 5 from rfl, m_in0 (by omega) (by omega), if_pos (by omega)]
  rfl
theorem m_row0 {F : Nat} {x : Int32} {S : sm_t} (h : x.toInt < 0 ∨ 6 ≤ x.toInt) : x8_isRow F x S = some (0, S) := by
  unfold x8_isRow
  rw [m_in]
  by_cases h1 : x < 0
  · rw [if_pos h1]
    rfl
  · rw [if_neg h1, if_pos]
    · rfl
    · rw [tt_lt] at h1 ⊢
      simp only [Int32.reduceToInt] at h1 ⊢
      omega
