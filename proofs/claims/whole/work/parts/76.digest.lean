/-! ===== digest ===== -/
def zmix (h : Int64) (g : Nat → Int32) : Nat → Int64
  | 0 => h
  | n + 1 => 31 * zmix h g n + (g n).toInt64
def hS (T : sm_t) (v : Int64) : sm_t := sm_wL T 52 29 v
theorem hS_hS {T : sm_t} {a b : Int64} : hS (hS T a) b = hS T b := by
  unfold hS
  rw [wL_g, wL_g, wL_g, wg_wg, wg_s]
  have : vp_updL (vp_updL (T.2.1 52) 29 a) 29 b = vp_updL (T.2.1 52) 29 b := funext fun k => by
    by_cases q : k = 29
    · rw [q, pk_uLs, pk_uLs]
    · rw [pk_uLn q, pk_uLn q, pk_uLn q]
  rw [this]
theorem hS_v {T : sm_t} {a : Int64} : (hS T a).2.1 52 29 = a := by
  unfold hS
  rw [tt_4s, if_pos rfl]
theorem m_mix {F : Nat} {T : sm_t} {v : Int64} {x : Int32} : x8_mix F x (hS T v) = some (hS T (31 * v + x.toInt64)) := by
  unfold x8_mix
  rw [tt_n, tt_n, hS_v]
  exact congrArg some hS_hS
theorem hS_mi {z : zz} {K T : sm_t} {v : Int64} (h : mi z K T) : mi z K (hS T v) := by
  refine mc_sc h (fun b hb => rfl) ⟨rfl, rfl, rfl, rfl⟩ (fun b hb => ?_) ⟨?_, ?_⟩ rfl
  · exact tt_4 (by omega)
  · unfold hS
    rw [tt_4s, if_neg (by omega)]
  · unfold hS
    rw [tt_4s, if_neg (by omega)]
theorem x_dInts {F a n N : Nat} {h : Int64} {g : Nat → Int32} {S : sm_t} (hF : 1000 < F) (ha : sm_sq a = some (.inl (.int, N))) (hN : N < 1000) (hn : n ≤ N) (hg : ∀ k, k < n → S.1 a k = g k) : x7_digestInts F h a (nI n) S = some (zmix h g n, S) := by
  unfold x7_digestInts
  refine lp0 (fun f (v : Int64) i => x7_digestInts_6 F f a (nI n) v i S) n (fun i v => v = zmix h g i) (fun o => o = some (zmix h g n, S)) (by omega) rfl (fun f v hv => ?_) (fun f i v hi hv => Or.inr ⟨_, ?_, rfl⟩)
  · change x7_digestInts_6 F (f + 1) a (nI n) v (nI n) S = _
    rw [x7_digestInts_6, if_pos (nI_le (by omega) (by omega)), hv]
  · change x7_digestInts_6 F (f + 1) a (nI n) v (nI i) S = x7_digestInts_6 F f a (nI n) _ (nI (i + 1)) S
    rw [x7_digestInts_6, if_neg (nI_ge hi (by omega)), tt_an ha, tt_r _ (hg i hi) (by omega) (by omega), tt_n, hv, nI_1]
    rfl
theorem x_dInts1 {F a : Nat} {h : Int64} {S : sm_t} (hF : 1000 < F) : x7_digestInts F h a (-1) S = some (h, S) := by
  unfold x7_digestInts
  obtain ⟨f, hf⟩ : ∃ f, F = f + 1 := ⟨F - 1, by omega⟩
  have : ∀ m, 0 < m → x7_digestInts_6 F m a (-1) h 0 S = some (h, S) := by
    intro m hm
    obtain ⟨m, rfl⟩ : ∃ k, m = k + 1 := ⟨m - 1, by omega⟩
    rw [x7_digestInts_6, if_pos (by decide)]
  exact this F (by omega)
def zd1 (z : zz) : Int64 := zmix 17 (fun w => nI (zcnt z w)) 7
def zd2 (z : zz) : Int64 := zmix (zd1 z) (zf z) 15
def zd3 (z : zz) : Nat → Int64
  | 0 => zd2 z
  | k + 1 => match z_st z (k + 1) with
    | none => 31 * zd3 z k + (-1)
    | some w => zmix (zd3 z k) (fun c => nI (w c)) 120
def zd4 (z : zz) : Nat → Int64
  | 0 => zd3 z 3
  | e + 1 => zmix (zd4 z e) (fun i => nI (z_sg z e i)) 5
def zd5 (z : zz) : Nat → Int64
  | 0 => zd4 z (z_sn z)
  | r + 1 => zmix (31 * zd5 z r + (z_x (z_rs z r)).toInt64) (z_rw z r) ((z_rs z r).getD 0)
def zd6 (z : zz) : Nat → Int64
  | 0 => zd5 z 6
  | t + 1 => zmix (31 * zd6 z t + (z_x (z_ts z t)).toInt64) (z_tw z t) ((z_ts z t).getD 0)
theorem x_dg6 {F : Nat} {z : zz} {J S : sm_t} (hF : 1000 < F) (hz : zw z) (hx : xi z J S) : x7_digest F S = x7_digest_33 F F (zd1 z) 0 S := by
  unfold x7_digest
  refine lp0 (fun f (v : Int64) i => x7_digest_6 F f v i S) 7 (fun i v => v = zmix 17 (fun w => nI (zcnt z w)) i) (fun o => o = x7_digest_33 F F (zd1 z) 0 S) (by omega) rfl (fun f v hv => ?_) (fun f i v hi hv => Or.inr ⟨_, ?_, rfl⟩)
  · change x7_digest_6 F (f + 1) v 7 S = _
    rw [x7_digest_6, if_pos (by decide), hv]
    rfl
  · change x7_digest_6 F (f + 1) v (nI i) S = x7_digest_6 F f _ (nI (i + 1)) S
    rw [x7_digest_6, if_neg (show ¬ (6 : Int32) < nI i from nI_nlt (a := 6) (by omega) (by omega)), x_count hF hz hx hi, tt_cI, tt_n, hv, nI_1]
    rfl
theorem x_dg33 {F : Nat} {z : zz} {S : sm_t} (hF : 1000 < F) (hz : zw z) (h : xk z S.1) : x7_digest_33 F F (zd1 z) 0 S = x7_digest_63 F F (zd3 z 0) 0 S := by
  refine lp0 (fun f (v : Int64) i => x7_digest_33 F f v i S) 15 (fun i v => v = zmix (zd1 z) (zf z) i) (fun o => o = x7_digest_63 F F (zd3 z 0) 0 S) (by omega) rfl (fun f v hv => ?_) (fun f i v hi hv => Or.inr ⟨_, ?_, rfl⟩)
  · change x7_digest_33 F (f + 1) v 15 S = _
    rw [x7_digest_33, if_pos (by decide), hv]
    rfl
  · change x7_digest_33 F (f + 1) v (nI i) S = x7_digest_33 F f _ (nI (i + 1)) S
    rw [x7_digest_33, if_neg (show ¬ (15 : Int32) ≤ nI i from nI_ge (b := 15) (by omega) (by omega)), k_number hz h hi, tt_cI, tt_n, hv, nI_1]
    rfl
theorem x_dg63 {F : Nat} {z : zz} {S : sm_t} (hF : 1000 < F) (h : xk z S.1) : x7_digest_63 F F (zd3 z 0) 0 S = x7_digest_110 F F (zd4 z 0) 0 S := by
  refine lp0 (fun f (v : Int64) i => x7_digest_63 F f v i S) 3 (fun i v => v = zd3 z i) (fun o => o = x7_digest_110 F F (zd4 z 0) 0 S) (by omega) rfl (fun f v hv => ?_) (fun f i v hi hv => Or.inr ⟨_, ?_, rfl⟩)
  · change x7_digest_63 F (f + 1) v 3 S = _
    rw [x7_digest_63, if_pos (by decide), hv]
    rfl
  · change x7_digest_63 F (f + 1) v (nI i) S = x7_digest_63 F f (match z_st z (i + 1) with | none => 31 * zd3 z i + (-1) | some w => zmix (zd3 z i) (fun c => nI (w c)) 120) (nI (i + 1)) S
    have e := h.2.2 i hi
    rw [x7_digest_63, if_neg (show ¬ (3 : Int32) ≤ nI i from nI_ge (b := 3) (by omega) (by omega)), tt_r _ e.1 (by omega) (by omega), hv, nI_1]
    cases q : z_st z (i + 1) with
    | none => rw [if_pos (show z_b none = 0 from rfl), tt_n]
    | some w => rw [if_neg (show ¬ z_b (some w) = 0 from n10), tt_rd hi (by omega), show x7_digestInts F (zd3 z i) (37 + i) 120 S = _ from x_dInts (n := 120) (g := fun c => nI (w c)) hF (tt_sq_story i hi) (by omega) (by omega) (e.2 w q), tt_cL]
theorem x_dg110 {F : Nat} {z : zz} {J S : sm_t} (hF : 1000 < F) (hz : zw z) (hx : xi z J S) : x7_digest_110 F F (zd4 z 0) 0 S = x7_digest_166 F F (zd5 z 0) 0 S := by
  have hn := hz.2.2.2.2.1
  have h := xk_of hx
  refine lp0 (fun f (v : Int64) i => x7_digest_110 F f v i S) (z_sn z) (fun i v => v = zd4 z i) (fun o => o = x7_digest_166 F F (zd5 z 0) 0 S) (by omega) rfl (fun f v hv => ?_) (fun f i v hi hv => Or.inr ⟨_, ?_, rfl⟩)
  · change x7_digest_110 F (f + 1) v (nI (z_sn z)) S = _
    rw [x7_digest_110, tt_n, h.2.1.1, if_pos (nI_le (by omega) (by omega)), hv]
    rfl
  · change x7_digest_110 F (f + 1) v (nI i) S = x7_digest_110 F f (zmix (zd4 z i) (fun k => nI (z_sg z i k)) 5) (nI (i + 1)) S
    rw [x7_digest_110, tt_n, h.2.1.1, if_neg (nI_ge hi (by omega)), hv]
    refine lp0 (fun m (v : Int64) k => x7_digest_124 F (x7_digest_110 F f) m v (nI i) k S) 5 (fun k v => v = zmix (zd4 z i) (fun k => nI (z_sg z i k)) k) (fun o => o = x7_digest_110 F f (zmix (zd4 z i) (fun k => nI (z_sg z i k)) 5) (nI (i + 1)) S) (by omega) rfl (fun m v hv => ?_) (fun m k v hk hv => Or.inr ⟨_, ?_, rfl⟩)
    · change x7_digest_124 F (x7_digest_110 F f) (m + 1) v (nI i) 5 S = _
      rw [x7_digest_124, if_pos (by decide), hv, nI_1]
    · change x7_digest_124 F (x7_digest_110 F f) (m + 1) v (nI i) (nI k) S = x7_digest_124 F (x7_digest_110 F f) m _ (nI i) (nI (k + 1)) S
      rw [x7_digest_124, if_neg (show ¬ (4 : Int32) < nI k from nI_nlt (a := 4) (by omega) (by omega)), tt_rd (by omega) (by omega), tt_on (sq_sg hz hi), x_num6 hz hx hi hk, tt_cI, tt_n, hv, nI_1]
      rfl
theorem x_dg166 {F : Nat} {z : zz} {J S : sm_t} (hF : 1000 < F) (hz : zw z) (hx : xi z J S) : x7_digest_166 F F (zd5 z 0) 0 S = x7_digest_209 F F (zd6 z 0) 0 S := by
  refine lp0 (fun f (v : Int64) i => x7_digest_166 F f v i S) 6 (fun i v => v = zd5 z i) (fun o => o = x7_digest_209 F F (zd6 z 0) 0 S) (by omega) rfl (fun f v hv => ?_) (fun f i v hi hv => Or.inr ⟨_, ?_, rfl⟩)
  · change x7_digest_166 F (f + 1) v 6 S = _
    rw [x7_digest_166, if_pos (by decide), hv]
    rfl
  · change x7_digest_166 F (f + 1) v (nI i) S = x7_digest_166 F f (zmix (31 * zd5 z i + (z_x (z_rs z i)).toInt64) (z_rw z i) ((z_rs z i).getD 0)) (nI (i + 1)) S
    have e := hx.2.1 i hi
    rw [x7_digest_166, if_neg (show ¬ (6 : Int32) ≤ nI i from nI_ge (b := 6) (by omega) (by omega)), tt_r _ e hi (by omega), tt_rd hi (by omega), tt_r _ e hi (by omega), hv, nI_1]
    cases q : z_rs z i with
    | none =>
      rw [show x7_digestInts F _ (5 + i) (z_x none) S = _ from x_dInts1 hF, tt_cL]
      rfl
    | some n =>
      have := hz.1 i n q
      rw [show x7_digestInts F _ (5 + i) (z_x (some n)) S = _ from x_dInts (n := n) (g := z_rw z i) hF (tt_sq_row i hi) (by omega) (by omega) (fun k hk => hx.2.2.1 i k hi (by omega)), tt_cL]
      rfl
theorem x_dg209 {F : Nat} {z : zz} {J S : sm_t} (hF : 1000 < F) (hz : zw z) (hx : xi z J S) : x7_digest_209 F F (zd6 z 0) 0 S = some (zd6 z 4, S) := by
  refine lp0 (fun f (v : Int64) i => x7_digest_209 F f v i S) 4 (fun i v => v = zd6 z i) (fun o => o = some (zd6 z 4, S)) (by omega) rfl (fun f v hv => ?_) (fun f i v hi hv => Or.inr ⟨_, ?_, rfl⟩)
  · change x7_digest_209 F (f + 1) v 4 S = _
    rw [x7_digest_209, if_pos (by decide), hv]
  · change x7_digest_209 F (f + 1) v (nI i) S = x7_digest_209 F f (zmix (31 * zd6 z i + (z_x (z_ts z i)).toInt64) (z_tw z i) ((z_ts z i).getD 0)) (nI (i + 1)) S
    have e := hx.2.2.2.1 i hi
    rw [x7_digest_209, if_neg (show ¬ (4 : Int32) ≤ nI i from nI_ge (b := 4) (by omega) (by omega)), tt_r _ e hi (by omega), tt_n, hv]
    cases q : z_ts z i with
    | none =>
      have : ∀ m h, 0 < m → x7_digest_231 F (x7_digest_209 F f) m h (nI i) 0 S = x7_digest_209 F f h (nI (i + 1)) S := by
        intro m h hm
        obtain ⟨m, rfl⟩ : ∃ k, m = k + 1 := ⟨m - 1, by omega⟩
        rw [q] at e
        change S.1 17 i = -1 at e
        rw [x7_digest_231, tt_r _ e hi (by omega), if_pos (by decide), nI_1]
      rw [this F _ (by omega)]
      rfl
    | some n =>
      have hn := hz.2.1 i n q
      rw [q] at e
      change S.1 17 i = nI n at e
      refine lp0 (fun m (v : Int64) k => x7_digest_231 F (x7_digest_209 F f) m v (nI i) k S) n (fun k v => v = zmix (31 * zd6 z i + (nI n).toInt64) (z_tw z i) k) (fun o => o = x7_digest_209 F f (zmix (31 * zd6 z i + (nI n).toInt64) (z_tw z i) n) (nI (i + 1)) S) (by omega) rfl (fun m v hv => ?_) (fun m k v hk hv => Or.inr ⟨_, ?_, rfl⟩)
      · change x7_digest_231 F (x7_digest_209 F f) (m + 1) v (nI i) (nI n) S = _
        rw [x7_digest_231, tt_r _ e hi (by omega), if_pos (nI_le (by omega) (by omega)), hv, nI_1]
      · change x7_digest_231 F (x7_digest_209 F f) (m + 1) v (nI i) (nI k) S = x7_digest_231 F (x7_digest_209 F f) m _ (nI i) (nI (k + 1)) S
        rw [x7_digest_231, tt_r _ e hi (by omega), if_neg (nI_ge hk (by omega)), tt_rd hi (by omega), tt_an (tt_sq_text i hi), tt_r _ (hx.2.2.2.2.1 i k hi (by omega)) (by omega) (by omega), tt_n, hv, nI_1]
        rfl
theorem x_dig {F : Nat} {z : zz} {J S : sm_t} (hF : 1000 < F) (hz : zw z) (hx : xi z J S) : x7_digest F S = some (zd6 z 4, S) := by
  rw [x_dg6 hF hz hx, x_dg33 hF hz (xk_of hx), x_dg63 hF (xk_of hx), x_dg110 hF hz hx, x_dg166 hF hz hx, x_dg209 hF hz hx]
/-! the reference -/
theorem m_dg9 {F : Nat} {z : zz} {K T : sm_t} (hF : 1000 < F) (hz : zw z) (hm : mi z K T) : x8_digest F T = sm_cV (x8_mixFlight F (hS T (zd1 z))) (fun S => x8_digest_36 F F 0 S) := by
  unfold x8_digest
  rw [tt_n]
  change x8_digest_9 F F 0 (hS T 17) = _
  refine lp0 (fun f (v : Int64) i => x8_digest_9 F f i (hS T v)) 7 (fun i v => v = zmix 17 (fun w => nI (zcnt z w)) i) (fun o => o = sm_cV (x8_mixFlight F (hS T (zd1 z))) (fun S => x8_digest_36 F F 0 S)) (a := 17) (by omega) rfl (fun f v hv => ?_) (fun f i v hi hv => Or.inr ⟨_, ?_, rfl⟩)
  · change x8_digest_9 F (f + 1) 7 (hS T v) = _
    rw [x8_digest_9, if_pos (by decide), hv]
    rfl
  · change x8_digest_9 F (f + 1) (nI i) (hS T v) = x8_digest_9 F f (nI (i + 1)) (hS T _)
    rw [x8_digest_9, if_neg (show ¬ (6 : Int32) < nI i from nI_nlt (a := 6) (by omega) (by omega)), m_countsOf hF hz (hS_mi hm) hi, tt_cI, m_mix, tt_cV, hv, nI_1]
    rfl
theorem m_fl2 {F : Nat} {z : zz} {K T : sm_t} (hF : 1000 < F) (hm : mi z K T) : x8_mixFlight F (hS T (zd1 z)) = x8_mixFlight_26 F F 1 (hS T (zd3 z 0)) := by
  unfold x8_mixFlight
  refine lp0 (fun f (v : Int64) i => x8_mixFlight_2 F f i (hS T v)) 15 (fun i v => v = zmix (zd1 z) (zf z) i) (fun o => o = x8_mixFlight_26 F F 1 (hS T (zd3 z 0))) (a := zd1 z) (by omega) rfl (fun f v hv => ?_) (fun f i v hi hv => Or.inr ⟨_, ?_, rfl⟩)
  · change x8_mixFlight_2 F (f + 1) 15 (hS T v) = _
    rw [x8_mixFlight_2, if_pos (by decide), hv]
    rfl
  · change x8_mixFlight_2 F (f + 1) (nI i) (hS T v) = x8_mixFlight_2 F f (nI (i + 1)) (hS T _)
    rw [x8_mixFlight_2, if_neg (show ¬ (15 : Int32) ≤ nI i from nI_ge (b := 15) (by omega) (by omega)), tt_r _ (m_number (hS_mi (v := v) hm) hi) hi (by omega), m_mix, tt_cV, hv, nI_1]
    rfl
theorem m_fl26 {F : Nat} {z : zz} {K T : sm_t} (hF : 1000 < F) (hm : mi z K T) : x8_mixFlight_26 F F 1 (hS T (zd3 z 0)) = x8_mixFlight_91 F F 0 (hS T (zd4 z 0)) := by
  refine lpi (fun f (v : Int64) i => x8_mixFlight_26 F f i (hS T v)) 4 1 (fun i v => 1 ≤ i ∧ v = zd3 z (i - 1)) (fun o => o = x8_mixFlight_91 F F 0 (hS T (zd4 z 0))) (a := zd3 z 0) (by omega) (by omega) ⟨Nat.le_refl 1, rfl⟩ (fun f v hv => ?_) (fun f i v hi hv => Or.inr ⟨zd3 z i, ?_, by omega, rfl⟩)
  · change x8_mixFlight_26 F (f + 1) 4 (hS T v) = _
    rw [x8_mixFlight_26, if_pos (by decide), hv.2]
    rfl
  · obtain ⟨k, rfl⟩ : ∃ k, i = k + 1 := ⟨i - 1, by omega⟩
    change x8_mixFlight_26 F (f + 1) (nI (k + 1)) (hS T v) = x8_mixFlight_26 F f (nI (k + 1 + 1)) (hS T (match z_st z (k + 1) with | none => 31 * zd3 z k + (-1) | some w => zmix (zd3 z k) (fun c => nI (w c)) 120))
    have hv1 : v = zd3 z k := hv.2
    have e := hm.2.2.2.2.2.2.1.2 k (by omega)
    have e1 : ∀ v, (hS T v).1 60 (k + 1) = z_b (z_st z (k + 1)) := fun v => e.1
    rw [x8_mixFlight_26, if_neg (show ¬ (4 : Int32) ≤ nI (k + 1) from nI_ge (b := 4) (by omega) (by omega)), tt_r _ (e1 v) (by omega) (by omega), hv1]
    cases q : z_st z (k + 1) with
    | none =>
      have : ∀ m v, 0 < m → x8_mixFlight_47 F (x8_mixFlight_26 F f) m (nI (k + 1)) 0 (hS T v) = x8_mixFlight_26 F f (nI (k + 1 + 1)) (hS T v) := by
        intro m v hm
        obtain ⟨m, rfl⟩ : ∃ k, m = k + 1 := ⟨m - 1, by omega⟩
        rw [x8_mixFlight_47, if_neg (by decide), tt_r _ (e1 v) (by omega) (by omega), q, if_pos (show z_b none = 0 from rfl), nI_1]
      rw [if_pos (show z_b none = 0 from rfl), m_mix, tt_cV, this F _ (by omega)]
      rfl
    | some w =>
      rw [if_neg (show ¬ z_b (some w) = 0 from n10)]
      refine lp0 (fun m (v : Int64) c => x8_mixFlight_47 F (x8_mixFlight_26 F f) m (nI (k + 1)) c (hS T v)) 120 (fun c v => v = zmix (zd3 z k) (fun c => nI (w c)) c) (fun o => o = x8_mixFlight_26 F f (nI (k + 1 + 1)) (hS T (zmix (zd3 z k) (fun c => nI (w c)) 120))) (a := zd3 z k) (by omega) rfl (fun m v hv => ?_) (fun m c v hc hv => Or.inr ⟨_, ?_, rfl⟩)
      · change x8_mixFlight_47 F (x8_mixFlight_26 F f) (m + 1) (nI (k + 1)) 120 (hS T v) = _
        rw [x8_mixFlight_47, if_pos (by decide), hv, nI_1]
      · change x8_mixFlight_47 F (x8_mixFlight_26 F f) (m + 1) (nI (k + 1)) (nI c) (hS T v) = x8_mixFlight_47 F (x8_mixFlight_26 F f) m (nI (k + 1)) (nI (c + 1)) (hS T _)
        rw [x8_mixFlight_47, if_neg (show ¬ (120 : Int32) ≤ nI c from nI_ge (b := 120) (by omega) (by omega)), tt_r _ (e1 v) (by omega) (by omega), q, if_neg (show ¬ z_b (some w) = 0 from n10), tk_m120, nI_add, tt_r _ (show (hS T v).1 61 (120 * (k + 1) + c) = nI (w c) from e.2 w q c hc) (by omega) (by omega), m_mix, tt_cV, hv, nI_1]
        rfl
theorem zmix_a {h : Int64} {g : Nat → Int32} {n : Nat} : ∀ m, zmix h g (n + m) = zmix (zmix h g n) (fun i => g (n + i)) m := by
  intro m
  induction m with
  | zero => rfl
  | succ m ih =>
    show 31 * zmix h g (n + m) + (g (n + m)).toInt64 = 31 * zmix (zmix h g n) (fun i => g (n + i)) m + (g (n + m)).toInt64
    rw [ih]
theorem zmix_c {h : Int64} {g g1 : Nat → Int32} : ∀ m, (∀ i, i < m → g i = g1 i) → zmix h g m = zmix h g1 m := by
  intro m
  induction m with
  | zero => exact fun _ => rfl
  | succ m ih =>
    intro e
    show 31 * zmix h g m + (g m).toInt64 = 31 * zmix h g1 m + (g1 m).toInt64
    rw [ih (fun i hi => e i (by omega)), e m (by omega)]
theorem zd4_f {z : zz} : ∀ e, zmix (zd4 z 0) (fun k => nI (z_sg z (k / 5) (k % 5))) (5 * e) = zd4 z e := by
  intro e
  induction e with
  | zero => rfl
  | succ e ih =>
    show zmix _ _ (5 * e + 5) = zmix (zd4 z e) _ 5
    rw [zmix_a, ih]
    refine zmix_c 5 (fun i hi => ?_)
    show nI (z_sg z ((5 * e + i) / 5) ((5 * e + i) % 5)) = _
    rw [show (5 * e + i) / 5 = e by omega, show (5 * e + i) % 5 = i by omega]
theorem m_fl91 {F : Nat} {z : zz} {K T : sm_t} (hF : 1000 < F) (hz : zw z) (hm : mi z K T) : x8_mixFlight_91 F F 0 (hS T (zd4 z 0)) = some (hS T (zd5 z 0)) := by
  have hn := hz.2.2.2.2.1
  have e0 : ∀ v, (hS T v).1 52 17 = nI (z_sn z) := fun v => hm.2.2.2.2.2.2.2.1.1
  refine lp0 (fun f (v : Int64) i => x8_mixFlight_91 F f i (hS T v)) (5 * z_sn z) (fun i v => v = zmix (zd4 z 0) (fun k => nI (z_sg z (k / 5) (k % 5))) i) (fun o => o = some (hS T (zd5 z 0))) (a := zd4 z 0) (by omega) rfl (fun f v hv => ?_) (fun f i v hi hv => Or.inr ⟨_, ?_, rfl⟩)
  · change x8_mixFlight_91 F (f + 1) (nI (5 * z_sn z)) (hS T v) = _
    rw [x8_mixFlight_91, tt_n, e0, tk_m5, if_pos (nI_le (by omega) (by omega)), hv, zd4_f]
    rfl
  · change x8_mixFlight_91 F (f + 1) (nI i) (hS T v) = x8_mixFlight_91 F f (nI (i + 1)) (hS T _)
    rw [x8_mixFlight_91, tt_n, e0, tk_m5, if_neg (nI_ge hi (by omega)), tt_r _ (show (hS T v).1 63 i = nI (z_sg z (i / 5) (i % 5)) by
      have := hm.2.2.2.2.2.2.2.1.2 (i / 5) (i % 5) (by omega) (by omega)
      rw [show 5 * (i / 5) + i % 5 = i by omega] at this
      exact this) (by omega) (by omega), m_mix, tt_cV, hv, nI_1]
    rfl
theorem m_dg36 {F : Nat} {z : zz} {K T : sm_t} (hF : 1000 < F) (hz : zw z) (hm : mi z K T) : x8_digest_36 F F 0 (hS T (zd5 z 0)) = x8_digest_101 F F 0 (hS T (zd6 z 0)) := by
  refine lp0 (fun f (v : Int64) i => x8_digest_36 F f i (hS T v)) 6 (fun i v => v = zd5 z i) (fun o => o = x8_digest_101 F F 0 (hS T (zd6 z 0))) (a := zd5 z 0) (by omega) rfl (fun f v hv => ?_) (fun f i v hi hv => Or.inr ⟨_, ?_, rfl⟩)
  · change x8_digest_36 F (f + 1) 6 (hS T v) = _
    rw [x8_digest_36, if_pos (by decide), hv]
    rfl
  · change x8_digest_36 F (f + 1) (nI i) (hS T v) = x8_digest_36 F f (nI (i + 1)) (hS T (zmix (31 * zd5 z i + (z_x (z_rs z i)).toInt64) (z_rw z i) ((z_rs z i).getD 0)))
    have e : ∀ v, (hS T v).1 54 i = z_m (z_rs z i) := fun v => hm.2.1 i hi
    rw [x8_digest_36, if_neg (show ¬ (6 : Int32) ≤ nI i from nI_ge (b := 6) (by omega) (by omega)), tt_r _ (e v) hi (by omega), hv]
    cases q : z_rs z i with
    | none =>
      have : ∀ m v, 0 < m → x8_digest_67 F (x8_digest_36 F f) m (nI i) 0 (hS T v) = x8_digest_36 F f (nI (i + 1)) (hS T v) := by
        intro m v hm
        obtain ⟨m, rfl⟩ : ∃ k, m = k + 1 := ⟨m - 1, by omega⟩
        rw [x8_digest_67, tt_r _ (e v) hi (by omega), q, if_pos (show z_m none ≤ 0 by decide), nI_1]
      rw [if_neg (show ¬ 0 ≤ z_m none by decide), m_mix, tt_cV, this F _ (by omega)]
      rfl
    | some n =>
      have hn := hz.1 i n q
      have e2 : ∀ v, (hS T v).1 54 i = nI n := fun v => by rw [e v, q]; rfl
      rw [if_pos (show 0 ≤ z_m (some n) from nI_pos' (n := n) (by omega)), tt_r _ (e2 _) hi (by omega), m_mix, tt_cV]
      refine lp0 (fun m (v : Int64) k => x8_digest_67 F (x8_digest_36 F f) m (nI i) k (hS T v)) n (fun k v => v = zmix (31 * zd5 z i + (nI n).toInt64) (z_rw z i) k) (fun o => o = x8_digest_36 F f (nI (i + 1)) (hS T (zmix (31 * zd5 z i + (nI n).toInt64) (z_rw z i) n))) (a := 31 * zd5 z i + (nI n).toInt64) (by omega) rfl (fun m v hv => ?_) (fun m k v hk hv => Or.inr ⟨_, ?_, rfl⟩)
      · change x8_digest_67 F (x8_digest_36 F f) (m + 1) (nI i) (nI n) (hS T v) = _
        rw [x8_digest_67, tt_r _ (e2 v) hi (by omega), if_pos (nI_le (by omega) (by omega)), hv, nI_1]
      · change x8_digest_67 F (x8_digest_36 F f) (m + 1) (nI i) (nI k) (hS T v) = x8_digest_67 F (x8_digest_36 F f) m (nI i) (nI (k + 1)) (hS T _)
        rw [x8_digest_67, tt_r _ (e2 v) hi (by omega), if_neg (nI_ge hk (by omega)), m_rowAt (hS_mi hm) hi (by omega), tt_cI, m_mix, tt_cV, hv, nI_1]
        rfl
theorem m_dg101 {F : Nat} {z : zz} {K T : sm_t} (hF : 1000 < F) (hz : zw z) (hm : mi z K T) : x8_digest_101 F F 0 (hS T (zd6 z 0)) = some (zd6 z 4, hS T (zd6 z 4)) := by
  refine lp0 (fun f (v : Int64) i => x8_digest_101 F f i (hS T v)) 4 (fun i v => v = zd6 z i) (fun o => o = some (zd6 z 4, hS T (zd6 z 4))) (a := zd6 z 0) (by omega) rfl (fun f v hv => ?_) (fun f i v hi hv => Or.inr ⟨_, ?_, rfl⟩)
  · change x8_digest_101 F (f + 1) 4 (hS T v) = _
    rw [x8_digest_101, if_pos (by decide), tt_n, hS_v, hv]
  · change x8_digest_101 F (f + 1) (nI i) (hS T v) = x8_digest_101 F f (nI (i + 1)) (hS T (zmix (31 * zd6 z i + (z_x (z_ts z i)).toInt64) (z_tw z i) ((z_ts z i).getD 0)))
    have e : ∀ v, (hS T v).1 57 i = z_m (z_ts z i) := fun v => hm.2.2.2.1 i hi
    rw [x8_digest_101, if_neg (show ¬ (4 : Int32) ≤ nI i from nI_ge (b := 4) (by omega) (by omega)), tt_r _ (e v) hi (by omega), hv]
    cases q : z_ts z i with
    | none =>
      have : ∀ m v, 0 < m → x8_digest_131 F (x8_digest_101 F f) m (nI i) 0 (hS T v) = x8_digest_101 F f (nI (i + 1)) (hS T v) := by
        intro m v hm
        obtain ⟨m, rfl⟩ : ∃ k, m = k + 1 := ⟨m - 1, by omega⟩
        rw [x8_digest_131, tt_r _ (e v) hi (by omega), q, if_pos (show z_m none ≤ 0 by decide), nI_1]
      rw [if_neg (show ¬ 0 ≤ z_m none by decide), m_mix, tt_cV, this F _ (by omega)]
      rfl
    | some n =>
      have hn := hz.2.1 i n q
      have e2 : ∀ v, (hS T v).1 57 i = nI n := fun v => by rw [e v, q]; rfl
      rw [if_pos (show 0 ≤ z_m (some n) from nI_pos' (n := n) (by omega)), tt_r _ (e2 _) hi (by omega), m_mix, tt_cV]
      refine lp0 (fun m (v : Int64) k => x8_digest_131 F (x8_digest_101 F f) m (nI i) k (hS T v)) n (fun k v => v = zmix (31 * zd6 z i + (nI n).toInt64) (z_tw z i) k) (fun o => o = x8_digest_101 F f (nI (i + 1)) (hS T (zmix (31 * zd6 z i + (nI n).toInt64) (z_tw z i) n))) (a := 31 * zd6 z i + (nI n).toInt64) (by omega) rfl (fun m v hv => ?_) (fun m k v hk hv => Or.inr ⟨_, ?_, rfl⟩)
      · change x8_digest_131 F (x8_digest_101 F f) (m + 1) (nI i) (nI n) (hS T v) = _
        rw [x8_digest_131, tt_r _ (e2 v) hi (by omega), if_pos (nI_le (by omega) (by omega)), hv, nI_1]
      · change x8_digest_131 F (x8_digest_101 F f) (m + 1) (nI i) (nI k) (hS T v) = x8_digest_131 F (x8_digest_101 F f) m (nI i) (nI (k + 1)) (hS T _)
        rw [x8_digest_131, tt_r _ (e2 v) hi (by omega), if_neg (nI_ge hk (by omega)), tk_m80, nI_add, tt_r _ (show (hS T v).1 58 (80 * i + k) = z_tw z i k from hm.2.2.2.2.1 i k hi (by omega)) (by omega) (by omega), m_mix, tt_cV, hv, nI_1]
        rfl
theorem q_digest {z : zz} {J K S T : sm_t} (hz : zw z) (hx : xi z J S) (hm : mi z K T) {F : Nat} (hF : 1000 < F) : bl J K (x7_digest F S) (x8_digest F T) := by
  rw [x_dig hF hz hx, m_dg9 hF hz hm, m_fl2 hF hm, m_fl26 hF hm, m_fl91 hF hz hm, tt_cV, m_dg36 hF hz hm, m_dg101 hF hz hm]
  exact ⟨_, z, _, _, rfl, rfl, hz, hx, hS_mi hm⟩
