/-! ===== a new sign ===== -/
def z5 (k a b c i : Nat) : Nat := if i = 0 then k else if i = 1 then a else if i = 2 then b else if i = 3 then c else 0
def zq_ad (z : zz) (k a b c : Nat) : zz := zq_sg z (z_sn z + 1, fun e i => if e = z_sn z then z5 k a b c i else z_sg z e i)
theorem zw_ad {z : zz} {k a b c : Nat} (hz : zw z) (hn : z_sn z < 12) (h : zw_sg k a b c 0) : zw (zq_ad z k a b c) := by
  refine ⟨hz.1, hz.2.1, hz.2.2.1, hz.2.2.2.1, hn, fun e he => ?_, hz.2.2.2.2.2.2⟩
  have he : e < z_sn z + 1 := he
  change zw_sg (if e = z_sn z then z5 k a b c 0 else z_sg z e 0) (if e = z_sn z then z5 k a b c 1 else z_sg z e 1) (if e = z_sn z then z5 k a b c 2 else z_sg z e 2) (if e = z_sn z then z5 k a b c 3 else z_sg z e 3) (if e = z_sn z then z5 k a b c 4 else z_sg z e 4)
  by_cases q : e = z_sn z
  · rw [if_pos q, if_pos q, if_pos q, if_pos q, if_pos q]
    exact h
  · rw [if_neg q, if_neg q, if_neg q, if_neg q, if_neg q]
    exact hz.2.2.2.2.2.1 e (by omega)
def w5 (S : sm_t) (t p : Nat) (k a b c : Nat) : sm_t := sm_wI (sm_wI (sm_wI (sm_wI (sm_wI S t p (nI k)) t (p + 1) (nI a)) t (p + 2) (nI b)) t (p + 3) (nI c)) t (p + 4) 0
theorem w5_s {S : sm_t} {t p k a b c i : Nat} (hi : i < 5) : (w5 S t p k a b c).1 t (p + i) = nI (z5 k a b c i) := by
  unfold w5 z5
  rw [tt_1s, tt_1s, tt_1s, tt_1s, tt_1s]
  rcases (show i = 0 ∨ i = 1 ∨ i = 2 ∨ i = 3 ∨ i = 4 by omega) with rfl | rfl | rfl | rfl | rfl
  · rw [if_neg (by omega), if_neg (by omega), if_neg (by omega), if_neg (by omega), if_pos (show p + 0 = p by omega)]
    rfl
  · rw [if_neg (by omega), if_neg (by omega), if_neg (by omega), if_pos rfl]
    rfl
  · rw [if_neg (by omega), if_neg (by omega), if_pos rfl]
    rfl
  · rw [if_neg (by omega), if_pos rfl]
    rfl
  · rw [if_pos rfl]
    rfl
theorem w5_n {S : sm_t} {t p k a b c i : Nat} (hi : ¬ (p ≤ i ∧ i < p + 5)) : (w5 S t p k a b c).1 t i = S.1 t i := by
  unfold w5
  rw [tt_1s, tt_1s, tt_1s, tt_1s, tt_1s, if_neg (by omega), if_neg (by omega), if_neg (by omega), if_neg (by omega), if_neg (by omega)]
theorem w5_o {S : sm_t} {t p k a b c d : Nat} (h : d ≠ t) : (w5 S t p k a b c).1 d = S.1 d := by
  unfold w5
  rw [tt_1 h, tt_1 h, tt_1 h, tt_1 h, tt_1 h]
theorem x_become {F t kn an bn cn : Nat} {k a b c : Int32} {S : sm_t} (ht : sm_sq t = some (.inr 5)) (h : fz k a b c kn an bn cn) : x6_become F t k a b c S = some (w5 S t 0 kn an bn cn) := by
  obtain ⟨rfl, hk, ha, hb, hc, -⟩ := h
  unfold x6_become x6_become_9 x6_become_25 x6_become_26 x6_become_44 x6_become_58 w5
  simp only [tt_on ht, tt_n]
  by_cases q : kn = 0
  · rw [if_pos q] at ha
    rw [if_pos (Or.inl q)] at hb hc
    rw [if_pos (show nI kn = 0 by rw [q]; rfl), if_pos trivial, if_pos trivial, if_pos trivial, if_pos trivial, ← ha, ← hb, ← hc]
  · rw [if_neg q] at ha
    rw [if_neg (nI_ne0 (by omega) (by omega)), if_neg (show ¬ (1 : Int32) = 0 by decide)]
    by_cases q3 : kn = 3
    · rw [if_pos (Or.inr q3)] at hb hc
      rw [if_pos (show nI kn = 3 by rw [q3]; rfl), if_neg (show ¬ (1 : Int32) = 0 by decide), if_pos trivial, if_pos trivial, ha, ← hb, ← hc]
    · rw [if_neg (by omega)] at hb hc
      rw [if_neg (show ¬ nI kn = 3 from fun p => q3 ((nI_eq (b := 3) (by omega) (by omega)).mp p)), if_neg (show ¬ (1 : Int32) = 0 by decide), if_neg (show ¬ (1 : Int32) = 0 by decide), if_neg (show ¬ (1 : Int32) = 0 by decide), ha, hb, hc]
theorem x_add {F kn an bn cn : Nat} {k a b c : Int32} {z : zz} {J S : sm_t} (hz : zw z) (hx : xi z J S) (hn : z_sn z < 12) (h : fz k a b c kn an bn cn) : ∃ S1, x0_add F k a b c S = some (nI (z_sn z), S1) ∧ xi (zq_ad z kn an bn cn) J S1 := by
  have e := hx.2.2.2.2.2.2.2.1.1
  have ht := tt_sq_sign (z_sn z) hn
  refine ⟨sm_wI (w5 S (24 + z_sn z) 0 kn an bn cn) 22 1 (nI (z_sn z + 1)), ?_, ?_⟩
  · unfold x0_add
    rw [tt_n, e, show (12 : Int32) = nI 12 from rfl, if_pos (nI_lt hn (by omega)), tt_n, tt_rd hn (by omega), tt_on ht, x_become ht h, tt_cV, tt_n, w5_o (by omega), e, nI_1, tt_n, tt_n, tt_1s, if_pos rfl, nI_pred]
  · refine xc_sg _ hx (fun b hb => ?_) rfl ⟨?_, fun e i he hi => ?_⟩
    · rw [tt_1 (by omega), w5_o (by omega)]
    · rw [tt_1s, if_pos rfl]
    · have he : e < z_sn z + 1 := he
      change _ = nI (if e = z_sn z then z5 kn an bn cn i else z_sg z e i)
      rw [tt_1 (by omega)]
      by_cases q : e = z_sn z
      · rw [if_pos q, q]
        have := w5_s (S := S) (t := 24 + z_sn z) (p := 0) (k := kn) (a := an) (b := bn) (c := cn) hi
        rw [Nat.zero_add] at this
        exact this
      · rw [if_neg q, w5_o (by omega)]
        exact x_sgn hx (by omega) hi
theorem m_add {F kn an bn cn : Nat} {k a b c : Int32} {z : zz} {J S : sm_t} (hm : mi z J S) (hn : z_sn z < 12) (h : fz k a b c kn an bn cn) : ∃ S1, x8_newSign F k a b c S = some (nI (z_sn z), S1) ∧ mi (zq_ad z kn an bn cn) J S1 := by
  have e := hm.2.2.2.2.2.2.2.1.1
  refine ⟨sm_wI (w5 S 63 (5 * z_sn z) kn an bn cn) 52 17 (nI (z_sn z + 1)), ?_, ?_⟩
  · obtain ⟨rfl, hk, ha, hb, hc, -⟩ := h
    unfold x8_newSign x8_newSign_33 x8_newSign_51 x8_newSign_56 x8_newSign_74 x8_newSign_80
    rw [tt_n, e, tt_n, tk_m5, tt_wr (by omega) (by omega), tk_b1, tk_b2, tk_b3, tk_b4]
    have e1 : ∀ (A : sm_t), (sm_wr A 63 60 (nI (5 * z_sn z + 4)) 0 fun S => sm_n (S.1 52 17) fun v1 => sm_n (sm_wI S 52 17 (v1 + 1)) fun S => sm_n (S.1 52 17) fun v2 => some (v2 - 1, S)) = some ((sm_wI A 63 (5 * z_sn z + 4) 0).1 52 17 + 1 - 1, sm_wI (sm_wI A 63 (5 * z_sn z + 4) 0) 52 17 ((sm_wI A 63 (5 * z_sn z + 4) 0).1 52 17 + 1)) := by
      intro A
      rw [tt_wr (by omega) (by omega), tt_n, tt_n, tt_n, tt_1s, if_pos rfl]
    by_cases q : kn = 0
    · rw [if_pos q] at ha
      rw [if_pos (Or.inl q)] at hb hc
      have q1 : nI kn = 0 := by rw [q]; rfl
      rw [if_pos q1, tt_wr (by omega) (by omega), if_pos q1, tt_wr (by omega) (by omega), if_pos q1, tt_wr (by omega) (by omega), e1]
      unfold w5
      rw [← ha, ← hb, ← hc, tt_1 (by omega), tt_1 (by omega), tt_1 (by omega), tt_1 (by omega), tt_1 (by omega), e, nI_1, nI_pred]
    · rw [if_neg q] at ha
      have q1 : ¬ nI kn = 0 := nI_ne0 (by omega) (by omega)
      by_cases q3 : kn = 3
      · rw [if_pos (Or.inr q3)] at hb hc
        have q2 : nI kn = 3 := by rw [q3]; rfl
        rw [if_neg q1, tt_wr (by omega) (by omega), if_neg q1, if_pos q2, tt_wr (by omega) (by omega), if_neg q1, if_pos q2, tt_wr (by omega) (by omega), e1]
        unfold w5
        rw [ha, ← hb, ← hc, tt_1 (by omega), tt_1 (by omega), tt_1 (by omega), tt_1 (by omega), tt_1 (by omega), e, nI_1, nI_pred]
      · rw [if_neg (by omega)] at hb hc
        have q2 : ¬ nI kn = 3 := fun p => q3 ((nI_eq (b := 3) (by omega) (by omega)).mp p)
        rw [if_neg q1, tt_wr (by omega) (by omega), if_neg q1, if_neg q2, tt_wr (by omega) (by omega), if_neg q1, if_neg q2, tt_wr (by omega) (by omega), e1]
        unfold w5
        rw [ha, hb, hc, tt_1 (by omega), tt_1 (by omega), tt_1 (by omega), tt_1 (by omega), tt_1 (by omega), e, nI_1, nI_pred]
  · refine mc_sg _ hm (fun b hb => ?_) (fun i hi => ?_) rfl ⟨?_, fun e i he hi => ?_⟩
    · rw [tt_1 (by omega), w5_o (by omega)]
    · rw [tt_1s, if_neg hi, w5_o (by omega)]
    · rw [tt_1s, if_pos rfl]
    · have he : e < z_sn z + 1 := he
      change _ = nI (if e = z_sn z then z5 kn an bn cn i else z_sg z e i)
      rw [tt_1 (by omega)]
      by_cases q : e = z_sn z
      · rw [if_pos q, q]
        exact w5_s hi
      · rw [if_neg q, w5_n (by omega)]
        exact hm.2.2.2.2.2.2.2.1.2 e i (by omega) hi
theorem q_sign {z : zz} {J K S T : sm_t} (hz : zw z) (hx : xi z J S) (hm : mi z K T) {F : Nat} (k a b c : Int32) : bt J K (x7_sign F k a b c S) (x8_sign F k a b c T) := by
  have hn := hz.2.2.2.2.1
  unfold x7_sign x8_sign
  rcases b_fit (F := F) k a b c with h | ⟨kn, an, bn, cn, hf, h⟩
  · rw [(h S).1, (h T).2]
    exact bt_same hz hx hm (-1)
  · rw [(h S).1, (h T).2, tt_cI, tt_cI, if_neg (by decide), if_neg (by decide), tt_n, tt_n, hx.2.2.2.2.2.2.2.1.1, hm.2.2.2.2.2.2.2.1.1, show (12 : Int32) = nI 12 from rfl]
    by_cases q : z_sn z < 12
    · obtain ⟨S1, e1, i1⟩ := x_add (F := F) hz hx q hf
      obtain ⟨T1, e2, i2⟩ := m_add (F := F) hm q hf
      rw [if_pos (nI_lt q (by omega)), if_neg (fun p => by have := (nI_eq (by omega) (by omega)).mp p; omega), e1, e2]
      exact ⟨_, _, _, _, rfl, rfl, zw_ad hz q hf.2.2.2.2.2, i1, i2⟩
    · rw [if_neg (nI_nlt (by omega) (by omega)), if_pos (by rw [show z_sn z = 12 by omega])]
      exact bt_same hz hx hm (-2)
