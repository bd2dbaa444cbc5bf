/-! ===== odds: what signs weigh together ===== -/
def zp (g : Nat → Nat) : Nat → Nat
  | 0 => 1
  | n + 1 => zp g n * g n
theorem zp_s (g : Nat → Nat) (n : Nat) : zp g (n + 1) = zp g n * g n := rfl
def zbh (z : zz) (e : Nat) : Prop := z_sg z e 0 = 1 ∨ z_sg z e 0 = 2
def zhf (z : zz) (o : Int32) (h c e : Nat) : Nat := if zct z o e = true then (if z_sg z e 0 = 1 ∨ z_sg z e 0 = 2 then (if z_sg z e 1 = h then zwt (z_sg z e) c else 1) else 1) else 1
def zbf (z : zz) (o : Int32) (h e : Nat) : Nat := if zct z o e = true then (if z_sg z e 0 = 3 then zwt (z_sg z e) h else if z_sg z e 0 = 1 ∨ z_sg z e 0 = 2 then (if z_sg z e 1 ≤ h then 1 else 12) else 1) else 1
def zaf (z : zz) (o : Int32) (c e : Nat) : Nat := if zct z o e = true then (if z_sg z e 0 = 3 then 1 else if z_sg z e 0 = 1 ∨ z_sg z e 0 = 2 then 1 else zwt (z_sg z e) c) else 1
def zgt (z : zz) (o : Int32) (c e : Nat) : Nat := if zct z o e = true then (if z_sg z e 0 = 3 then 12 else zwt (z_sg z e) c) else 1
def zhr (z : zz) (o : Int32) (h c : Nat) : Nat := zp (zhf z o h c) (z_sn z)
def zB (z : zz) (o : Int32) (h : Nat) : Nat := z_en z h * 4 ^ (z_ho z - h) * zp (zbf z o h) (z_sn z)
def zA (z : zz) (o : Int32) (c : Nat) : Nat := zp (zaf z o c) (z_sn z)
def zE (z : zz) (o : Int32) (h c : Nat) : Nat := zB z o h * zA z o c
def zG (z : zz) (o : Int32) (c : Nat) : Nat := zp (zgt z o c) (z_sn z)
theorem lm_1 (a : Nat) (b : Nat) : lN (a * b) * 1 = lN (a * (b * 1)) := by
  rw [Int64.mul_one, Nat.mul_one]
theorem lm_k {a b w : Nat} (hw : w ≤ 12) : lN (a * b) * (nI w).toInt64 = lN (a * (b * w)) := by
  rw [nI_l (by omega), lN_mul, Nat.mul_assoc]
theorem lm_12 (a b : Nat) : lN (a * b) * 12 = lN (a * (b * 12)) := by
  rw [show (12 : Int64) = lN 12 from rfl, lN_mul, Nat.mul_assoc]
theorem lm_0 (a b : Nat) : lN (a * b) = lN (a * (b * 1)) := by rw [Nat.mul_one]
theorem x_win {F e : Nat} {o : Int32} {z : zz} {S : sm_t} (hz : zw z) (h : xk z S.1) (he : e < z_sn z) : x2_weighsIn F (nI e) o S = some (nI (zi (zct z o e)), S) := by
  have hn := hz.2.2.2.2.1
  unfold x2_weighsIn zct
  by_cases q : nI e = o
  · rw [if_pos q, decide_eq_false (fun p => p q)]
    rfl
  · rw [if_neg q, tt_rd (by omega) (by omega), tt_on (sq_sg hz he), x_cts hz h he, tt_cI, decide_eq_true q, Bool.true_and]
    cases zc0 z e with
    | false => rw [if_pos (zi_0 rfl)]; rfl
    | true => rw [if_neg (zi_1 rfl)]; rfl
theorem x_bh {F e : Nat} {z : zz} {S : sm_t} (hz : zw z) (h : xk z S.1) (he : e < z_sn z) : x6_isByHour F (24 + e) S = some (nI (zi (decide (z_sg z e 0 = 1 ∨ z_sg z e 0 = 2))), S) := by
  have hs := sg_lt hz he
  unfold x6_isByHour
  rw [tt_on (sq_sg hz he), tt_n, tt_n, h.2.1.2 e 0 he (by omega)]
  by_cases q : z_sg z e 0 = 1
  · rw [if_pos (show nI (z_sg z e 0) = 1 by rw [q]; rfl), decide_eq_true (Or.inl q)]
    rfl
  · rw [if_neg (show ¬ nI (z_sg z e 0) = 1 from fun p => q ((nI_eq (b := 1) (by omega) (by omega)).mp p))]
    by_cases q1 : z_sg z e 0 = 2
    · rw [if_pos (show nI (z_sg z e 0) = 2 by rw [q1]; rfl), decide_eq_true (Or.inr q1)]
      rfl
    · rw [if_neg (show ¬ nI (z_sg z e 0) = 2 from fun p => q1 ((nI_eq (b := 2) (by omega) (by omega)).mp p)), decide_eq_false (by omega)]
      rfl
theorem m_bh {F k : Nat} {S : sm_t} (hk : k < 8) : x8_isByHour F (nI k) S = some (nI (zi (decide (k = 1 ∨ k = 2))), S) := by
  unfold x8_isByHour
  by_cases q : k = 1
  · rw [if_pos (show nI k = 1 by rw [q]; rfl), decide_eq_true (Or.inl q)]
    rfl
  · rw [if_neg (show ¬ nI k = 1 from fun p => q ((nI_eq (b := 1) (by omega) (by omega)).mp p))]
    by_cases q1 : k = 2
    · rw [if_pos (show nI k = 2 by rw [q1]; rfl), decide_eq_true (Or.inr q1)]
      rfl
    · rw [if_neg (show ¬ nI k = 2 from fun p => q1 ((nI_eq (b := 2) (by omega) (by omega)).mp p)), decide_eq_false (by omega)]
      rfl
theorem k3 {z : zz} {e : Nat} (hz : zw z) (he : e < z_sn z) : (nI (z_sg z e 0) = 3 ↔ z_sg z e 0 = 3) := by
  have hs := sg_lt hz he
  exact nI_eq (b := 3) (by omega) (by omega)
theorem x_bwk {F h e : Nat} {z : zz} {S : sm_t} (hz : zw z) (he : e < z_sn z) (q3 : z_sg z e 0 = 3) (hh : h < 7) : x6_burntWeight F (sm_ab (nI (z_sg z e 1) - nI h)) S = some (nI (zwt (z_sg z e) h), S) := by
  have ha : z_sg z e 1 ≤ 6 := by
    have hw := (hz.2.2.2.2.2.1 e he).2
    omega
  rw [show zwt (z_sg z e) h = zbw (z_sg z e 1) h by unfold zwt; rw [q3]; rfl, x_bw, (pbw_1 (z_sg z e 1) (by omega) h hh).1]
  rfl
theorem x_byEnd {F h : Nat} {o : Int32} {z : zz} {S : sm_t} (hF : 1000 < F) (hz : zw z) (hk : xk z S.1) (hh : h ≤ z_ho z) : x2_weightByEnd F (nI h) o S = some (lN (zB z o h), S) := by
  have hn := hz.2.2.2.2.1
  have h6 := hz.2.2.1.2.1
  have he9 := hz.2.2.1.2.2.2 h hh
  unfold x2_weightByEnd
  have key : ∀ a, a < 10 → ∀ d, d < 7 → sm_ls (nI a).toInt64 (2 * nI d) = lN (a * 4 ^ d) := by decide +kernel
  rw [tt_r _ (hk.1.2.2.2 h hh) (by omega) (by omega), tt_n, hk.1.2.1, tt_n, pk_sub hh, key _ (by omega) _ (by omega)]
  unfold zB
  refine lp0 (fun f (a : Int64) i => x2_weightByEnd_26 F f (nI h) o a i S) (z_sn z) (fun i a => a = lN (z_en z h * 4 ^ (z_ho z - h) * zp (zbf z o h) i)) (fun r => r = some (lN (z_en z h * 4 ^ (z_ho z - h) * zp (zbf z o h) (z_sn z)), S)) (by omega) (by show _ = lN (_ * 1); rw [Nat.mul_one]) (fun f a ha => ?_) (fun f i a hi ha => Or.inr ⟨_, ?_, rfl⟩)
  · change x2_weightByEnd_26 F (f + 1) (nI h) o a (nI (z_sn z)) S = _
    rw [x2_weightByEnd_26, tt_n, hk.2.1.1, if_pos (nI_le (by omega) (by omega)), ha]
  · change x2_weightByEnd_26 F (f + 1) (nI h) o a (nI i) S = x2_weightByEnd_26 F f (nI h) o (lN (z_en z h * 4 ^ (z_ho z - h) * (zp (zbf z o h) i * zbf z o h i))) (nI (i + 1)) S
    have hs := sg_lt hz hi
    have hw := zwt_le (z_sg z i) h
    rw [x2_weightByEnd_26, tt_n, hk.2.1.1, if_neg (nI_ge hi (by omega)), tt_rd (by omega) (by omega), x_win hz hk hi, tt_cI, nI_1 i, ha]
    unfold zbf
    cases zct z o i with
    | false => rw [if_pos (zi_0 rfl), if_neg (by decide), ← lm_0]
    | true =>
      rw [if_neg (zi_1 rfl), if_pos rfl, tt_on (sq_sg hz hi), tt_n, hk.2.1.2 i 0 hi (by omega)]
      by_cases q3 : z_sg z i 0 = 3
      · rw [if_pos ((k3 hz hi).mpr q3), if_pos q3, tt_n, hk.2.1.2 i 1 hi (by omega), x_bwk hz hi q3 (by omega), tt_cI, tt_n, lm_k hw]
      · rw [if_neg (fun p => q3 ((k3 hz hi).mp p)), if_neg q3, x_bh hz hk hi, tt_cI, tt_n, hk.2.1.2 i 1 hi (by omega)]
        by_cases q1 : z_sg z i 0 = 1 ∨ z_sg z i 0 = 2
        · rw [decide_eq_true q1, if_neg (zi_1 rfl), if_pos q1]
          by_cases q2 : z_sg z i 1 ≤ h
          · rw [if_pos (nI_le q2 (by omega)), if_pos q2, ← lm_0]
          · rw [if_neg (nI_ge (by omega) (by omega)), if_neg q2, tt_n, lm_12]
        · rw [decide_eq_false q1, if_pos (zi_0 rfl), if_neg q1, ← lm_0]
theorem lp_1 (a : Nat) : lN a * 1 = lN (a * 1) := by rw [Int64.mul_one, Nat.mul_one]
theorem lp_k {a w : Nat} (hw : w ≤ 12) : lN a * (nI w).toInt64 = lN (a * w) := by rw [nI_l (by omega), lN_mul]
theorem lp_12 (a : Nat) : lN a * 12 = lN (a * 12) := by rw [show (12 : Int64) = lN 12 from rfl, lN_mul]
theorem m_hourW {F h c : Nat} {o : Int32} {z : zz} {T : sm_t} (hF : 1000 < F) (hz : zw z) (hk : mk z T.1) (ho : T.1 52 19 = o) (hh : h < 8) (hc : c < 120) : x8_hourWeight F (nI h) (nI c) T = some (lN (zhr z o h c), T) := by
  have hn := hz.2.2.2.2.1
  unfold x8_hourWeight zhr
  refine lp0 (fun f (a : Int64) i => x8_hourWeight_5 F f (nI h) (nI c) a i T) (z_sn z) (fun i a => a = lN (zp (zhf z o h c) i)) (fun r => r = some (lN (zp (zhf z o h c) (z_sn z)), T)) (by omega) rfl (fun f a ha => ?_) (fun f i a hi ha => Or.inr ⟨_, ?_, rfl⟩)
  · change x8_hourWeight_5 F (f + 1) (nI h) (nI c) a (nI (z_sn z)) T = _
    rw [x8_hourWeight_5, tt_n, hk.2.1.1, if_pos (nI_le (by omega) (by omega)), ha]
  · change x8_hourWeight_5 F (f + 1) (nI h) (nI c) a (nI i) T = x8_hourWeight_5 F f (nI h) (nI c) (lN (zp (zhf z o h c) i * zhf z o h c i)) (nI (i + 1)) T
    have hs := sg_lt hz hi
    have hw := zwt_le (z_sg z i) c
    have e0 : x8_tell F (nI i) 0 T = some (nI (z_sg z i 0), T) := k_tell hz hk hi (i := 0) (by omega)
    have e1 : x8_tell F (nI i) 1 T = some (nI (z_sg z i 1), T) := k_tell hz hk hi (i := 1) (by omega)
    rw [x8_hourWeight_5, tt_n, hk.2.1.1, if_neg (nI_ge hi (by omega)), m_cts hz hk ho hi, tt_cI, nI_1 i, ha]
    unfold zhf
    cases zct z o i with
    | false => rw [if_pos (zi_0 rfl), if_neg (by decide), tt_n, lp_1]
    | true =>
      rw [if_neg (zi_1 rfl), if_pos rfl, e0, tt_cI, m_bh (by omega), tt_cI]
      by_cases q1 : z_sg z i 0 = 1 ∨ z_sg z i 0 = 2
      · rw [decide_eq_true q1, if_neg (zi_1 rfl), if_pos q1, e1, tt_cI]
        by_cases q2 : z_sg z i 1 = h
        · rw [if_pos (show nI (z_sg z i 1) = nI h by rw [q2]), if_pos q2, k_mw hz hk hi hc (fun q => by omega), tt_cI, tt_n, lp_k hw]
        · rw [if_neg (show ¬ nI (z_sg z i 1) = nI h from fun p => q2 ((nI_eq (by omega) (by omega)).mp p)), if_neg q2, tt_n, lp_1]
      · rw [decide_eq_false q1, if_pos (zi_0 rfl), if_neg q1, tt_n, lp_1]
theorem zp_m {f g : Nat → Nat} : ∀ n, zp (fun e => f e * g e) n = zp f n * zp g n := by
  intro n
  induction n with
  | zero => rfl
  | succ n ih =>
    show zp (fun e => f e * g e) n * (f n * g n) = zp f n * f n * (zp g n * g n)
    rw [ih, Nat.mul_mul_mul_comm]
theorem m_end74 {F h c i t0 : Nat} {o : Int32} {z : zz} {T : sm_t} {c5 : Int32 → Int32 → Int64 → Int32 → sm_t → Option (Int64 × sm_t)} {a : Int64} (hz : zw z) (hk : mk z T.1) (ho : T.1 52 19 = o) (hi : i < z_sn z) : x8_endWeight_74 F c5 (nI h) (nI c) a (nI i) (nI t0) T = c5 (nI h) (nI c) (if zct z o i = true then a * (nI t0).toInt64 else a * 1) (nI (i + 1)) T := by
  unfold x8_endWeight_74
  rw [m_cts hz hk ho hi, tt_cI, tt_n, tt_n, nI_1]
  cases zct z o i with
  | false => rw [if_pos (zi_0 rfl), if_neg (by decide)]
  | true => rw [if_neg (zi_1 rfl), if_pos rfl]
theorem m_endW {F h c : Nat} {o : Int32} {z : zz} {T : sm_t} (hF : 1000 < F) (hz : zw z) (hk : mk z T.1) (ho : T.1 52 19 = o) (hh : h ≤ z_ho z) (hc : c < 120) : x8_endWeight F (nI h) (nI c) T = some (lN (zE z o h c), T) := by
  have hn := hz.2.2.2.2.1
  have h6 := hz.2.2.1.2.1
  have he9 := hz.2.2.1.2.2.2 h hh
  have k104 : ∀ X : Nat, x8_endWeight_104 F F (nI h) (lN X) (nI h) T = some (lN (X * 4 ^ (z_ho z - h) * z_en z h), T) := by
    intro X
    refine lpi (fun f (a : Int64) i => x8_endWeight_104 F f (nI h) a i T) (z_ho z) h (fun i a => h ≤ i ∧ a = lN (X * 4 ^ (i - h))) (fun r => r = some (lN (X * 4 ^ (z_ho z - h) * z_en z h), T)) hh (by omega) ⟨Nat.le_refl h, by rw [Nat.sub_self]; show lN X = lN (X * 1); rw [Nat.mul_one]⟩ (fun f a ha => ?_) (fun f i a hi ha => Or.inr ⟨lN (X * 4 ^ (i + 1 - h)), ?_, by omega, rfl⟩)
    · change x8_endWeight_104 F (f + 1) (nI h) a (nI (z_ho z)) T = _
      rw [x8_endWeight_104, k_hours hk, tt_cI, if_pos (nI_le (by omega) (by omega)), ha.2]
      unfold x8_endWeight_125
      rw [k_endOf hz hk hh, tt_cI, lp_k (by omega)]
    · change x8_endWeight_104 F (f + 1) (nI h) a (nI i) T = x8_endWeight_104 F f (nI h) _ (nI (i + 1)) T
      rw [x8_endWeight_104, k_hours hk, tt_cI, if_neg (nI_ge hi (by omega)), tt_n, ha.2, nI_1, show (4 : Int64) = lN 4 from rfl, lN_mul, Nat.mul_assoc, ← Nat.pow_succ, show i + 1 - h = (i - h) + 1 by omega]
  have fin : zp (fun e => zbf z o h e * zaf z o c e) (z_sn z) * 4 ^ (z_ho z - h) * z_en z h = zE z o h c := by
    unfold zE zB zA
    rw [zp_m]
    ac_rfl
  unfold x8_endWeight
  rw [← fin, ← k104]
  refine lp0 (fun f (a : Int64) i => x8_endWeight_5 F f (nI h) (nI c) a i T) (z_sn z) (fun i a => a = lN (zp (fun e => zbf z o h e * zaf z o c e) i)) (fun r => r = x8_endWeight_104 F F (nI h) (lN (zp (fun e => zbf z o h e * zaf z o c e) (z_sn z))) (nI h) T) (by omega) rfl (fun f a ha => ?_) (fun f i a hi ha => Or.inr ⟨_, ?_, rfl⟩)
  · change x8_endWeight_5 F (f + 1) (nI h) (nI c) a (nI (z_sn z)) T = _
    rw [x8_endWeight_5, tt_n, hk.2.1.1, if_pos (nI_le (by omega) (by omega)), ha]
  · change x8_endWeight_5 F (f + 1) (nI h) (nI c) a (nI i) T = x8_endWeight_5 F f (nI h) (nI c) (lN (zp (fun e => zbf z o h e * zaf z o c e) i * (zbf z o h i * zaf z o c i))) (nI (i + 1)) T
    have hs := sg_lt hz hi
    have hw := zwt_le (z_sg z i) c
    have hw2 := zwt_le (z_sg z i) h
    have e0 : x8_tell F (nI i) 0 T = some (nI (z_sg z i 0), T) := k_tell hz hk hi (i := 0) (by omega)
    have e1 : x8_tell F (nI i) 1 T = some (nI (z_sg z i 1), T) := k_tell hz hk hi (i := 1) (by omega)
    rw [x8_endWeight_5, tt_n, hk.2.1.1, if_neg (nI_ge hi (by omega)), e0, tt_cI, ha]
    unfold zbf zaf
    by_cases q3 : z_sg z i 0 = 3
    · rw [if_pos ((k3 hz hi).mpr q3), k_mw hz hk hi (by omega) (fun _ => by omega), tt_cI, m_end74 hz hk ho hi]
      simp only [if_pos q3]
      cases zct z o i with
      | false => rw [if_neg (by decide), if_neg (by decide), if_neg (by decide), lp_1]
      | true => rw [if_pos rfl, if_pos rfl, if_pos rfl, lp_k hw2, Nat.mul_one]
    · rw [if_neg (fun p => q3 ((k3 hz hi).mp p)), m_bh (by omega), tt_cI]
      simp only [if_neg q3]
      by_cases q1 : z_sg z i 0 = 1 ∨ z_sg z i 0 = 2
      · rw [decide_eq_true q1, if_neg (zi_1 rfl), e1, tt_cI]
        simp only [if_pos q1]
        by_cases q2 : z_sg z i 1 ≤ h
        · rw [if_pos (nI_le q2 (by omega)), show x8_endWeight_74 F (x8_endWeight_5 F f) (nI h) (nI c) _ (nI i) 1 T = _ from m_end74 (t0 := 1) hz hk ho hi]
          simp only [if_pos q2]
          cases zct z o i with
          | false => rw [if_neg (by decide), if_neg (by decide), lp_1]
          | true => rw [if_pos rfl, if_pos rfl, lp_k (by omega)]
        · rw [if_neg (nI_ge (by omega) (by omega)), show x8_endWeight_74 F (x8_endWeight_5 F f) (nI h) (nI c) _ (nI i) 12 T = _ from m_end74 (t0 := 12) hz hk ho hi]
          simp only [if_neg q2]
          cases zct z o i with
          | false => rw [if_neg (by decide), if_neg (by decide), if_neg (by decide), lp_1]
          | true => rw [if_pos rfl, if_pos rfl, if_pos rfl, lp_k (by omega)]
      · rw [decide_eq_false q1, if_pos (zi_0 rfl), k_mw hz hk hi hc (fun q => absurd q q3), tt_cI, m_end74 hz hk ho hi]
        simp only [if_neg q1]
        cases zct z o i with
        | false => rw [if_neg (by decide), if_neg (by decide), if_neg (by decide), lp_1]
        | true => rw [if_pos rfl, if_pos rfl, if_pos rfl, lp_k hw, Nat.one_mul]
theorem m_wOf {F c : Nat} {o : Int32} {z : zz} {T : sm_t} (hF : 1000 < F) (hz : zw z) (hk : mk z T.1) (ho : T.1 52 19 = o) (hc : c < 120) : x8_weightOf F (nI c) T = some (lN (zG z o c), T) := by
  have hn := hz.2.2.2.2.1
  unfold x8_weightOf zG
  refine lp0 (fun f (a : Int64) i => x8_weightOf_5 F f (nI c) a i T) (z_sn z) (fun i a => a = lN (zp (zgt z o c) i)) (fun r => r = some (lN (zp (zgt z o c) (z_sn z)), T)) (by omega) rfl (fun f a ha => ?_) (fun f i a hi ha => Or.inr ⟨_, ?_, rfl⟩)
  · change x8_weightOf_5 F (f + 1) (nI c) a (nI (z_sn z)) T = _
    rw [x8_weightOf_5, tt_n, hk.2.1.1, if_pos (nI_le (by omega) (by omega)), ha]
  · change x8_weightOf_5 F (f + 1) (nI c) a (nI i) T = x8_weightOf_5 F f (nI c) (lN (zp (zgt z o c) i * zgt z o c i)) (nI (i + 1)) T
    have hs := sg_lt hz hi
    have hw := zwt_le (z_sg z i) c
    have e0 : x8_tell F (nI i) 0 T = some (nI (z_sg z i 0), T) := k_tell hz hk hi (i := 0) (by omega)
    rw [x8_weightOf_5, tt_n, hk.2.1.1, if_neg (nI_ge hi (by omega)), m_cts hz hk ho hi, tt_cI, nI_1 i, ha]
    unfold zgt
    cases zct z o i with
    | false => rw [if_pos (zi_0 rfl), if_neg (by decide), tt_n, lp_1]
    | true =>
      rw [if_neg (zi_1 rfl), if_pos rfl, e0, tt_cI]
      by_cases q3 : z_sg z i 0 = 3
      · rw [if_pos ((k3 hz hi).mpr q3), if_pos q3, tt_n, lp_12]
      · rw [if_neg (fun p => q3 ((k3 hz hi).mp p)), if_neg q3, k_mw hz hk hi hc (fun q => absurd q q3), tt_cI, tt_n, lp_k hw]
