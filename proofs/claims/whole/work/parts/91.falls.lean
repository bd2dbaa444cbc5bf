/-! ===== falls, likelier ===== -/
theorem l_ng {d : Nat} (h : d < 2 ^ 62) : (-lN d).toInt = -(d : Int) := by
  rw [Int64.toInt_neg, pk_lT (by omega), Int.bmod]
  split <;> omega
theorem lN_sb {x y : Nat} (h : y ≤ x) : lN x - lN y = lN (x - y) := by
  have e : lN x = lN (x - y) + lN y := by rw [lN_add, show x - y + y = x by omega]
  rw [e, Int64.add_sub_cancel]
theorem al_sub {x y : Nat} (hx : x < 2 ^ 62) (hy : y < 2 ^ 62) : sm_al (lN x - lN y) = lN (zd x y) ∧ (if 0 ≤ lN x - lN y then lN x - lN y else -(lN x - lN y)) = lN (zd x y) := by
  unfold zd
  by_cases q : y ≤ x
  · rw [lN_sb q, show x - y + (y - x) = x - y by omega]
    exact al_N (by omega)
  · have e : lN x - lN y = -lN (y - x) := by
      rw [← lN_sb (show x ≤ y by omega), Int64.neg_sub]
    have hn := l_ng (d := y - x) (by omega)
    have z0 : (0 : Int64).toInt = 0 := rfl
    rw [e, show x - y + (y - x) = y - x by omega]
    refine ⟨?_, ?_⟩
    · unfold sm_al
      rw [if_neg, Int64.neg_neg]
      rw [Int64.lt_iff_toInt_lt, hn, z0]
      omega
    · rw [if_neg, Int64.neg_neg]
      rw [Int64.le_iff_toInt_le, hn, z0]
      omega
theorem q_falls {z : zz} {J K S T : sm_t} (hz : zw z) (hx : xi z J S) (hm : mi z K T) {F : Nat} (hF : 1000 < F) (k e c : Int32) : bt J K (x7_falls F k e c S) (x8_falls F k e c T) := by
  have hn := hz.2.2.2.2.1
  have bb := bt_same hz hx hm (-1)
  unfold x7_falls x8_falls
  rcases tt_below e (z_sn z) (by omega) with ⟨e, he, rfl⟩ | h
  · rw [m_has1 hz hm he, tt_cI, if_neg n10]
    rcases tt_below c 120 (by omega) with ⟨c, hc, rfl⟩ | h
    · rw [m_cell1 hc, tt_cI, if_neg n10]
      rcases tt_below k 4 (by omega) with ⟨k, hk, rfl⟩ | h
      · rw [x_st1 hk, tt_cI, if_neg n10, x_has1 hz hx he, tt_cI, if_neg n10, x_cell1 hc, tt_cI, if_neg n10, m_st1 hk, tt_cI, if_neg n10]
        rcases b_bar (F := F) (m := 3) hz hx hm hF hk (by omega) with ⟨v, z1, S1, T1, v0, e1, a1, a2, a3, ⟨b1, b2⟩ | ⟨rfl, b2, rfl, b3, b4⟩⟩ | ⟨hst, hb, e1, e2, e3, e4⟩
        · rw [show x7_barred F (nI k) 3 S = _ from e1, tt_cI, if_neg v0, b2, tt_cI, if_neg b1]
          exact bt_same a1 a2 a3 _
        · rw [show x7_barred F (nI k) 3 S = _ from e1, tt_cI, if_neg v0, b2, tt_cI, if_pos (show (0 : Int32) ≤ 0 by decide), b3, tt_cI, if_neg (show ¬ nI (zbusy z) ≤ 3 from b4)]
          exact bt_same a1 a2 a3 _
        · obtain ⟨S1, f1, f2, f3⟩ := x_weigh (o := -9) hF hz hx hk hst
          obtain ⟨S2, f4, f5, f6⟩ := x_weigh (o := nI e) hF hz f2 hk hst
          obtain ⟨T1, g1, g2, g3⟩ := m_end hF hz hm (show zbusy z ≤ 6 by omega) hk hst
          obtain ⟨T2, g4, g5, g6, g7⟩ := m_lo (e := e) hF hz g2 (show zbusy z ≤ 6 by omega) hk hst
          have w1 := za_le (k := k) (o := -9) hz hb
          have w2 := za_le (k := k) (o := nI e) hz hb
          have u1 := zw_le (z := z) (k := k) (o := -9) hc
          have u2 := zw_le (z := z) (k := k) (o := nI e) hc
          rw [show x7_barred F (nI k) 3 S = _ from e1, tt_cI, if_pos p00, f1, tt_cL, tt_r _ (f3.1 c hc) hc (by omega), f4, tt_cL, tt_r _ (f6.1 c hc) hc (by omega), e2, tt_cI, if_pos (show (0 : Int32) ≤ 0 by decide), e3, tt_cI, if_pos (show nI (zbusy z) ≤ 3 from e4), g1, tt_cV, tt_r _ (g3.1 c hc) hc (by omega), tt_n, g3.2.1, tt_n, g4, tt_cV, tt_n, tt_n, tt_2, g7, tt_n, tt_r _ (g6 c hc) hc (by omega), tt_n, x_f4, m_f4, tt_cI, tt_cI]
          have bf := bt_fd hz f5 g5 (f := 4) (by omega)
          by_cases q1 : za_ z k (-9) = 0
          · rw [if_pos ((l_le (by omega)).mpr q1)]
            by_cases q2 : za_ z k (nI e) = 0
            · rw [if_pos ((l_eq (by omega)).mpr q2)]
              exact bf
            · rw [if_neg (fun p => q2 ((l_eq (by omega)).mp p)), if_pos ((l_eq (by omega)).mpr q1)]
              exact bf
          · rw [if_neg (fun p => q1 ((l_le (by omega)).mp p))]
            by_cases q2 : za_ z k (nI e) = 0
            · rw [if_neg (show ¬ 0 < lN (za_ z k (nI e)) from fun p => by
                have := (pk_lLT (a := 0) (by omega) (show za_ z k (nI e) < 2 ^ 63 by omega)).mp p
                omega), if_pos ((l_eq (by omega)).mpr q2)]
              exact bf
            · rw [if_pos (show 0 < lN (za_ z k (nI e)) from (pk_lLT (a := 0) (by omega) (show za_ z k (nI e) < 2 ^ 63 by omega)).mpr (by omega)), if_neg (fun p => q2 ((l_eq (by omega)).mp p)), if_neg (fun p => q1 ((l_eq (by omega)).mp p)), lN_mul, lN_mul, lN_mul, lN_mul, Nat.mul_comm (za_ z k (nI e)) (za_ z k (-9))]
              have m1 : zw_ z k (-9) c * za_ z k (nI e) ≤ (258048 * 12 ^ 3) * (258048 * 12 ^ 3) := Nat.mul_le_mul (by omega) w2
              have m2 : zw_ z k (nI e) c * za_ z k (-9) ≤ (258048 * 12 ^ 3) * (258048 * 12 ^ 3) := Nat.mul_le_mul (by omega) w1
              have m3 : za_ z k (-9) * za_ z k (nI e) ≤ (258048 * 12 ^ 3) * (258048 * 12 ^ 3) := Nat.mul_le_mul w1 w2
              have m4 : 0 < za_ z k (-9) * za_ z k (nI e) := Nat.mul_pos (by omega) (by omega)
              have al := al_sub (x := zw_ z k (-9) c * za_ z k (nI e)) (y := zw_ z k (nI e) c * za_ z k (-9)) (by omega) (by omega)
              obtain ⟨u, l, c1, c2⟩ := b_frac (ans := 1) (S := S2) (T := sm_wI T2 52 19 (-9)) (b := za_ z k (-9) * za_ z k (nI e)) hF (show zd (zw_ z k (-9) c * za_ z k (nI e)) (zw_ z k (nI e) c * za_ z k (-9)) < 2 ^ 63 by unfold zd; omega) m4 (by omega) al.1 al.2
              rw [c1, c2, tt_cV, tt_cI]
              exact bt_F hz f5 g5 _ _ _
      · rw [x_st0 h, tt_cI, if_pos p00, m_st0 h, tt_cI, if_pos p00]
        exact bb
    · rw [m_cell0 h, tt_cI, if_pos p00]
      rcases tt_below k 4 (by omega) with ⟨k, hk, rfl⟩ | h2
      · rw [x_st1 hk, tt_cI, if_neg n10, x_has1 hz hx he, tt_cI, if_neg n10, x_cell0 h, tt_cI, if_pos p00]
        exact bb
      · rw [x_st0 h2, tt_cI, if_pos p00]
        exact bb
  · rw [m_has0 hz hm h, tt_cI, if_pos p00]
    rcases tt_below k 4 (by omega) with ⟨k, hk, rfl⟩ | h2
    · rw [x_st1 hk, tt_cI, if_neg n10, x_has0 hz hx h, tt_cI, if_pos p00]
      exact bb
    · rw [x_st0 h2, tt_cI, if_pos p00]
      exact bb
/-! likelier -/
def zbr (z : zz) (k : Nat) : Nat := if k = 0 then zs (z_en z) (z_ho z + 1) * 4 ^ z_ho z else zs (match z_st z k with
  | some w => w
  | none => fun _ => 0) 120
theorem zbr_le {z : zz} {k : Nat} (hz : zw z) : zbr z k ≤ 258048 := by
  have h6 := hz.2.2.1.2.1
  unfold zbr
  by_cases q : k = 0
  · rw [if_pos q]
    have e1 : zs (z_en z) (z_ho z + 1) ≤ 9 * (z_ho z + 1) := zs_le _ (fun j hj => hz.2.2.1.2.2.2 j (by omega))
    have e2 : 4 ^ z_ho z ≤ 4 ^ 6 := Nat.pow_le_pow_right (by omega) h6
    have e3 : zs (z_en z) (z_ho z + 1) * 4 ^ z_ho z ≤ 63 * 4 ^ 6 := Nat.mul_le_mul (by omega) e2
    omega
  · rw [if_neg q]
    cases e : z_st z k with
    | none =>
      have : zs (fun _ => 0) 120 = 0 := zs_z 120 (fun _ _ => rfl)
      show zs (fun _ => 0) 120 ≤ 258048
      omega
    | some w =>
      have : zs w 120 ≤ 99 * 120 := zs_le 120 (fun c hc => hz.2.2.2.1 k w e c hc)
      show zs w 120 ≤ 258048
      omega
theorem x_bare {F k : Nat} {z : zz} {S : sm_t} (hF : 1000 < F) (hz : zw z) (hx : xk z S.1) (hk : k < 4) (hst : k ≠ 0 → (z_st z k).isSome = true) : x2_bare F (nI k) S = some (lN (zbr z k), S) := by
  have h6 := hz.2.2.1.2.1
  unfold x2_bare zbr
  by_cases q : k = 0
  · subst q
    rw [if_pos (show nI 0 = 0 from rfl), if_pos rfl]
    refine lp0 (fun f (a : Int64) i => x2_bare_9 F f a i S) (z_ho z + 1) (fun i a => a = lN (zs (z_en z) i)) (fun r => r = some (lN (zs (z_en z) (z_ho z + 1) * 4 ^ z_ho z), S)) (f := F) (a := 0) (by omega) rfl (fun f a ha => ?_) (fun f i a hi ha => Or.inr ⟨_, ?_, rfl⟩)
    · change x2_bare_9 F (f + 1) a (nI (z_ho z + 1)) S = _
      have key : ∀ s, s < 64 → ∀ d, d < 7 → sm_ls (lN s) (2 * nI d) = lN (s * 4 ^ d) := by decide +kernel
      have e1 : zs (z_en z) (z_ho z + 1) ≤ 9 * (z_ho z + 1) := zs_le _ (fun j hj => hz.2.2.1.2.2.2 j (by omega))
      rw [x2_bare_9, tt_n, hx.1.2.1, if_pos (nI_lt (by omega) (by omega)), ha]
      unfold x2_bare_41
      rw [tt_n, hx.1.2.1, key _ (by omega) _ (by omega)]
    · change x2_bare_9 F (f + 1) a (nI i) S = x2_bare_9 F f (lN (zs (z_en z) i + z_en z i)) (nI (i + 1)) S
      have := hz.2.2.1.2.2.2 i (by omega)
      rw [x2_bare_9, tt_n, hx.1.2.1, if_neg (nI_nlt (show i ≤ z_ho z by omega) (by omega)), tt_r _ (hx.1.2.2.2 i (by omega)) (by omega) (by omega), tt_n, ha, nI_l (by omega), lN_add, nI_1]
  · obtain ⟨w, hw⟩ := Option.isSome_iff_exists.mp (hst q)
    obtain ⟨k, rfl⟩ : ∃ m, k = m + 1 := ⟨k - 1, by omega⟩
    rw [if_neg (nI_ne0 (by omega) (by omega)), if_neg q, hw]
    refine lp0 (fun f (a : Int64) i => x2_bare_56 F f (nI (k + 1)) a i S) 120 (fun i a => a = lN (zs w i)) (fun r => r = some (lN (zs w 120), S)) (f := F) (a := 0) (by omega) rfl (fun f a ha => ?_) (fun f i a hi ha => Or.inr ⟨_, ?_, rfl⟩)
    · change x2_bare_56 F (f + 1) (nI (k + 1)) a 120 S = _
      rw [x2_bare_56, if_pos (by decide), ha]
    · change x2_bare_56 F (f + 1) (nI (k + 1)) a (nI i) S = x2_bare_56 F f (nI (k + 1)) (lN (zs w i + w i)) (nI (i + 1)) S
      have := hz.2.2.2.1 (k + 1) w hw i hi
      rw [x2_bare_56, if_neg (show ¬ (120 : Int32) ≤ nI i from nI_ge (b := 120) hi (by omega)), nI_pred, tt_rd (by omega) (by omega), tt_an (tt_sq_story k (by omega)), tt_r _ ((hx.2.2 k (by omega)).2 w hw i hi) hi (by omega), tt_n, ha, nI_l (by omega), lN_add, nI_1]
theorem m_bare {F k : Nat} {z : zz} {T : sm_t} (hF : 1000 < F) (hz : zw z) (hm : mk z T.1) (hk : k < 4) (hst : k ≠ 0 → (z_st z k).isSome = true) : x8_bare F (nI k) T = some (lN (zbr z k), T) := by
  have h6 := hz.2.2.1.2.1
  obtain ⟨f0, hf0⟩ : ∃ f, F = f + 1 := ⟨F - 1, by omega⟩
  unfold x8_bare zbr
  by_cases q : k = 0
  · subst q
    rw [if_pos rfl]
    have e5 : ∀ f, x8_bare_5 F (f + 1) (nI 0) 0 0 T = x8_bare_41 F F (nI 0) 0 0 T := fun f => by
      rw [x8_bare_5, if_neg (by decide), if_pos (by decide)]
    have e5' := e5 f0
    rw [← hf0] at e5'
    rw [e5']
    have e41 : x8_bare_41 F F (nI 0) 0 0 T = x8_bare_73 F F (nI 0) (lN (zs (z_en z) (z_ho z + 1))) 0 T := by
      refine lp0 (fun f (a : Int64) i => x8_bare_41 F f (nI 0) a i T) (z_ho z + 1) (fun i a => a = lN (zs (z_en z) i)) (fun r => r = x8_bare_73 F F (nI 0) (lN (zs (z_en z) (z_ho z + 1))) 0 T) (f := F) (a := 0) (by omega) rfl (fun f a ha => ?_) (fun f i a hi ha => Or.inr ⟨_, ?_, rfl⟩)
      · change x8_bare_41 F (f + 1) (nI 0) a (nI (z_ho z + 1)) T = _
        rw [x8_bare_41, k_hours hm, tt_cI, if_pos (nI_lt (by omega) (by omega)), ha]
      · change x8_bare_41 F (f + 1) (nI 0) a (nI i) T = x8_bare_41 F f (nI 0) (lN (zs (z_en z) i + z_en z i)) (nI (i + 1)) T
        have := hz.2.2.1.2.2.2 i (by omega)
        rw [x8_bare_41, k_hours hm, tt_cI, if_neg (nI_nlt (show i ≤ z_ho z by omega) (by omega)), if_pos (show nI 0 = 0 from rfl), k_endOf hz hm (by omega), tt_cI, tt_n, ha, nI_l (by omega), lN_add, nI_1]
    rw [e41]
    refine lp0 (fun f (a : Int64) i => x8_bare_73 F f (nI 0) a i T) (z_ho z) (fun i a => a = lN (zs (z_en z) (z_ho z + 1) * 4 ^ i)) (fun r => r = some (lN (zs (z_en z) (z_ho z + 1) * 4 ^ z_ho z), T)) (f := F) (a := lN (zs (z_en z) (z_ho z + 1))) (by omega) (by rw [Nat.pow_zero, Nat.mul_one]) (fun f a ha => ?_) (fun f i a hi ha => Or.inr ⟨_, ?_, rfl⟩)
    · change x8_bare_73 F (f + 1) (nI 0) a (nI (z_ho z)) T = _
      rw [x8_bare_73, k_hours hm, tt_cI, if_pos (nI_le (by omega) (by omega)), ha]
    · change x8_bare_73 F (f + 1) (nI 0) a (nI i) T = x8_bare_73 F f (nI 0) _ (nI (i + 1)) T
      rw [x8_bare_73, k_hours hm, tt_cI, if_neg (nI_ge hi (by omega)), if_pos (show nI 0 = 0 from rfl), tt_n, ha, show (4 : Int64) = lN 4 from rfl, lN_mul, Nat.mul_assoc, ← Nat.pow_succ, nI_1]
  · obtain ⟨w, hw⟩ := Option.isSome_iff_exists.mp (hst q)
    obtain ⟨k, rfl⟩ : ∃ m, k = m + 1 := ⟨k - 1, by omega⟩
    rw [if_neg q, hw]
    have e5 : x8_bare_5 F F (nI (k + 1)) 0 0 T = x8_bare_41 F F (nI (k + 1)) (lN (zs w 120)) 0 T := by
      refine lp0 (fun f (a : Int64) i => x8_bare_5 F f (nI (k + 1)) a i T) 120 (fun i a => a = lN (zs w i)) (fun r => r = x8_bare_41 F F (nI (k + 1)) (lN (zs w 120)) 0 T) (f := F) (a := 0) (by omega) rfl (fun f a ha => ?_) (fun f i a hi ha => Or.inr ⟨_, ?_, rfl⟩)
      · change x8_bare_5 F (f + 1) (nI (k + 1)) a 120 T = _
        rw [x8_bare_5, if_pos (by decide), ha]
      · change x8_bare_5 F (f + 1) (nI (k + 1)) a (nI i) T = x8_bare_5 F f (nI (k + 1)) (lN (zs w i + w i)) (nI (i + 1)) T
        have := hz.2.2.2.1 (k + 1) w hw i hi
        rw [x8_bare_5, if_neg (show ¬ (120 : Int32) ≤ nI i from nI_ge (b := 120) hi (by omega)), if_neg (nI_nle (by omega) (by omega)), tk_m120, nI_add, tt_r _ ((hm.2.2.2 k (by omega)).2 w hw i hi) (by omega) (by omega), tt_n, ha, nI_l (by omega), lN_add, nI_1]
    have e41 : ∀ f a, x8_bare_41 F (f + 1) (nI (k + 1)) a 0 T = x8_bare_73 F F (nI (k + 1)) a 0 T := fun f a => by
      rw [x8_bare_41, k_hours hm, tt_cI, if_neg (show ¬ nI (z_ho z) < 0 from nI_pos (by omega)), if_neg (nI_ne0 (by omega) (by omega))]
    have e73 : ∀ f a, x8_bare_73 F (f + 1) (nI (k + 1)) a 0 T = some (a, T) := fun f a => by
      rw [x8_bare_73, k_hours hm, tt_cI, if_neg (show ¬ nI (k + 1) = 0 from nI_ne0 (by omega) (by omega))]
      split <;> rfl
    have a1 := e41 f0 (lN (zs w 120))
    have a2 := e73 f0 (lN (zs w 120))
    rw [← hf0] at a1 a2
    rw [e5, a1, a2]
theorem b_m2 {z : zz} {J K S T : sm_t} (hz : zw z) (hx : xi z J S) (hm : mi z K T) {F k : Nat} (hk : k < 4) : (x7_isMissing F (nI k) S = some (1, S) ∧ k ≠ 0 ∧ T.1 60 k = 0) ∨ ((k ≠ 0 → (z_st z k).isSome = true) ∧ x7_isMissing F (nI k) S = some (0, S) ∧ (k ≠ 0 → T.1 60 k = 1)) := by
  unfold x7_isMissing
  by_cases q : k = 0
  · rw [q]
    exact Or.inr ⟨fun x => absurd rfl x, rfl, fun x => absurd rfl x⟩
  · obtain ⟨k, rfl⟩ : ∃ m, k = m + 1 := ⟨k - 1, by omega⟩
    have e1 := (hx.2.2.2.2.2.2.1 k (by omega)).1
    have e2 := (hm.2.2.2.2.2.2.1.2 k (by omega)).1
    rw [if_neg (nI_nle (by omega) (by omega)), if_neg (show ¬ (3 : Int32) < nI (k + 1) from nI_nlt (a := 3) (by omega) (by omega)), nI_pred, tt_r _ e1 (by omega) (by omega), e2]
    cases h : z_st z (k + 1) with
    | none => exact Or.inl ⟨if_pos rfl, q, rfl⟩
    | some w => exact Or.inr ⟨fun _ => rfl, if_neg n10, fun _ => rfl⟩
theorem m_lk {F k l : Nat} {z : zz} {K T : sm_t} (hF : 1000 < F) (hk : k < 4) (hl : l < 4) : (k ≠ 0 → T.1 60 k = 1) → (l ≠ 0 → T.1 60 l = 1) → x8_likelier F (nI k) (nI l) T = x8_likelier_52 F (nI k) (nI l) T := by
  intro h1 h2
  have e33 : x8_likelier_33 F (nI k) (nI l) T = x8_likelier_52 F (nI k) (nI l) T := by
    unfold x8_likelier_33
    by_cases q : l = 0
    · rw [q, if_pos (by decide)]
    · rw [if_neg (nI_nle (by omega) (by omega)), tt_r _ (h2 q) hl (by omega), if_neg n10]
  unfold x8_likelier
  rw [m_st1 hk, tt_cI, if_neg n10, m_st1 hl, tt_cI, if_neg n10]
  by_cases q : k = 0
  · rw [q, if_pos (by decide)]
    rw [q] at e33
    exact e33
  · rw [if_neg (nI_nle (by omega) (by omega)), tt_r _ (h1 q) hk (by omega), if_neg n10, e33]
theorem q_likelier {z : zz} {J K S T : sm_t} (hz : zw z) (hx : xi z J S) (hm : mi z K T) {F : Nat} (hF : 1000 < F) (k l : Int32) : bt J K (x7_likelier F k l S) (x8_likelier F k l T) := by
  have bb := bt_same hz hx hm (-1)
  rcases tt_below k 4 (by omega) with ⟨k, hk, rfl⟩ | h
  · rcases tt_below l 4 (by omega) with ⟨l, hl, rfl⟩ | h
    · unfold x7_likelier
      rw [x_st1 hk, tt_cI, if_neg n10, x_st1 hl, tt_cI, if_neg n10]
      have bf := bt_fd hz hx hm (f := 1) (by omega)
      rcases b_m2 (F := F) hz hx hm hk with ⟨c1, c2, c3⟩ | ⟨s1, c1, c2⟩
      · unfold x8_likelier
        rw [c1, tt_cI, if_neg n10, x_f1, tt_cI, m_st1 hk, tt_cI, if_neg n10, m_st1 hl, tt_cI, if_neg n10, if_neg (nI_nle (by omega) (by omega)), tt_r _ c3 hk (by omega), if_pos p00, m_f1, tt_cI]
        exact bf
      · rw [c1, tt_cI, if_pos p00]
        rcases b_m2 (F := F) hz hx hm hl with ⟨d1, d2, d3⟩ | ⟨s2, d1, d2⟩
        · have e33 : x8_likelier_33 F (nI k) (nI l) T = some (-3, mfd T 1) := by
            unfold x8_likelier_33
            rw [if_neg (nI_nle (by omega) (by omega)), tt_r _ d3 hl (by omega), if_pos p00, m_f1, tt_cI]
          unfold x8_likelier
          rw [d1, tt_cI, if_neg n10, x_f1, tt_cI, m_st1 hk, tt_cI, if_neg n10, m_st1 hl, tt_cI, if_neg n10, e33]
          by_cases q : k = 0
          · rw [q, if_pos (by decide)]
            exact bf
          · rw [if_neg (nI_nle (by omega) (by omega)), tt_r _ (c2 q) hk (by omega), if_neg n10]
            exact bf
        · rw [d1, tt_cI, if_pos p00, m_lk (z := z) (K := K) hF hk hl c2 d2]
          unfold x8_likelier_52
          have hn := hz.2.2.2.2.1
          have hbl := zbusy_le (z := z)
          rw [x_busy hF hz (xk_of hx), tt_cI, m_busy hF hz (mk_of hm) hm.2.2.2.2.2.2.2.2.2, tt_cI]
          by_cases qb : zbusy z ≤ 6
          · have qi : nI (zbusy z) ≤ 6 := nI_le (b := 6) qb (by omega)
            obtain ⟨S1, f1, f2, f3⟩ := x_weigh (o := -9) hF hz hx hk s1
            obtain ⟨S2, f4, f5, f6⟩ := x_weigh (o := -9) hF hz f2 hl s2
            obtain ⟨T1, g1, g2, g3⟩ := m_end hF hz hm qb hk s1
            obtain ⟨T2, g4, g5, g6⟩ := m_end hF hz g2 qb hl s2
            have w1 := za_le (k := k) (o := -9) hz qb
            have w2 := za_le (k := l) (o := -9) hz qb
            have y1 := zbr_le (k := k) hz
            have y2 := zbr_le (k := l) hz
            rw [if_pos qi, if_pos qi]
            simp only [tt_n]
            rw [x_bare hF hz (xk_of hx) hk s1, tt_cL, x_bare hF hz (xk_of hx) hl s2, tt_cL, f1, tt_cL, f4, tt_cL, g1, tt_cV, g3.2.1, m_bare hF hz (mk_of g2) hl s2, tt_cL, g4, tt_cV, g6.2.1, m_bare hF hz (mk_of g5) hk s1, tt_cL, m_bare hF hz (mk_of g5) hl s2, tt_cL, lN_mul, lN_mul, x_f4, m_f4, tt_cI, tt_cI]
            have bf := bt_fd hz f5 g5 (f := 4) (by omega)
            have p1 : za_ z k (-9) * zbr z l ≤ 258048 * 12 ^ 6 * 258048 := Nat.mul_le_mul w1 y2
            have p2 : za_ z l (-9) * zbr z k ≤ 258048 * 12 ^ 6 * 258048 := Nat.mul_le_mul w2 y1
            by_cases q1 : za_ z l (-9) = 0
            · rw [if_pos ((l_le (by omega)).mpr q1), if_pos ((l_eq (by omega)).mpr (by rw [q1, Nat.zero_mul]))]
              exact bf
            · rw [if_neg (fun p => q1 ((l_le (by omega)).mp p))]
              by_cases q2 : zbr z k = 0
              · rw [if_pos ((l_le (by omega)).mpr q2), if_pos ((l_eq (by omega)).mpr (by rw [q2, Nat.mul_zero]))]
                exact bf
              · have pp : 0 < za_ z l (-9) * zbr z k := Nat.mul_pos (by omega) (by omega)
                rw [if_neg (fun p => q2 ((l_le (by omega)).mp p)), if_neg (show ¬ lN (za_ z l (-9) * zbr z k) = 0 from l_ne pp (by omega))]
                by_cases q3 : zbr z l = 0
                · rw [if_neg (show ¬ 0 < lN (zbr z l) from fun p => by
                    have := (pk_lLT (a := 0) (by omega) (show zbr z l < 2 ^ 63 by omega)).mp p
                    omega), if_pos ((l_eq (by omega)).mpr q3)]
                  exact bf
                · rw [if_pos (show 0 < lN (zbr z l) from (pk_lLT (a := 0) (by omega) (show zbr z l < 2 ^ 63 by omega)).mpr (by omega)), if_neg (fun p => q3 ((l_eq (by omega)).mp p))]
                  have fr := fun ans => b_fr (ans := ans) (S := S2) (T := T2) hF (show za_ z k (-9) * zbr z l < 2 ^ 63 by omega) pp (by omega)
                  by_cases q4 : lN (za_ z k (-9) * zbr z l) ≤ lN (za_ z l (-9) * zbr z k)
                  · simp only [if_pos q4]
                    by_cases q5 : lN (za_ z k (-9) * zbr z l) = lN (za_ z l (-9) * zbr z k)
                    · obtain ⟨u, l', r1, r2⟩ := fr 1
                      simp only [if_pos q5]
                      rw [r1, r2, tt_cV, tt_cI]
                      exact bt_F hz f5 g5 _ _ _
                    · obtain ⟨u, l', r1, r2⟩ := fr 0
                      simp only [if_neg q5]
                      rw [r1, r2, tt_cV, tt_cI]
                      exact bt_F hz f5 g5 _ _ _
                  · obtain ⟨u, l', r1, r2⟩ := fr 2
                    simp only [if_neg q4]
                    rw [r1, r2, tt_cV, tt_cI]
                    exact bt_F hz f5 g5 _ _ _
          · have qi : ¬ nI (zbusy z) ≤ 6 := nI_ge (a := 6) (by omega) (by omega)
            rw [if_neg qi, if_neg qi]
            exact bt_same hz hx hm (-6)
    · unfold x7_likelier x8_likelier
      rw [x_st1 hk, tt_cI, if_neg n10, x_st0 h, tt_cI, if_pos p00, m_st1 hk, tt_cI, if_neg n10, m_st0 h, tt_cI, if_pos p00]
      exact bb
  · unfold x7_likelier x8_likelier
    rw [x_st0 h, tt_cI, if_pos p00, m_st0 h, tt_cI, if_pos p00]
    exact bb
