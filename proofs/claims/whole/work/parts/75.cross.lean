/-! ===== cross ===== -/
def ztv (z : zz) (e : Nat) : Bool := decide (z_sg z e 0 = 5) && decide (z_sg z e 4 = 0)
def zfr (z : zz) (c e : Nat) : Bool := decide (zsd (z_sg z e 1) c = nI (z_sg z e 2))
def zon (z : zz) (c : Nat) : Nat := zs (fun e => zi (ztv z e && zfr z c e)) (z_sn z)
theorem x_tv {F e : Nat} {z : zz} {S : sm_t} (hz : zw z) (h : xk z S.1) (he : e < z_sn z) : x6_isTrueVoice F (24 + e) S = some (nI (zi (ztv z e)), S) := by
  have hs := sg_lt hz he
  unfold x6_isTrueVoice ztv
  rw [tt_on (sq_sg hz he), tt_n, tt_n, h.2.1.2 e 4 he (by omega), h.2.1.2 e 0 he (by omega)]
  by_cases q : z_sg z e 0 = 5
  · rw [if_pos (show nI (z_sg z e 0) = 5 by rw [q]; rfl), decide_eq_true q]
    by_cases q1 : z_sg z e 4 = 0
    · rw [if_pos (show nI (z_sg z e 4) = 0 by rw [q1]; rfl), decide_eq_true q1]
      rfl
    · rw [if_neg (nI_ne0 (by omega) (by omega)), decide_eq_false q1]
      rfl
  · rw [if_neg (show ¬ nI (z_sg z e 0) = 5 from fun p => q ((nI_eq (b := 5) (by omega) (by omega)).mp p)), decide_eq_false q]
    rfl
theorem x_fr {F e c : Nat} {z : zz} {S : sm_t} (hz : zw z) (h : xk z S.1) (he : e < z_sn z) (hc : c < 120) : x6_isFrom F (24 + e) (nI c) S = some (nI (zi (zfr z c e)), S) := by
  have hs := sg_lt hz he
  unfold x6_isFrom zfr
  rw [tt_on (sq_sg hz he), tt_n, h.2.1.2 e 1 he (by omega), x_side (by omega) (by omega), tt_cI, tt_n, h.2.1.2 e 2 he (by omega)]
  by_cases q : zsd (z_sg z e 1) c = nI (z_sg z e 2)
  · rw [if_pos q, decide_eq_true q]
    rfl
  · rw [if_neg q, decide_eq_false q]
    rfl
theorem x_tvf {F c : Nat} {z : zz} {S : sm_t} (hF : 1000 < F) (hz : zw z) (h : xk z S.1) (hc : c < 120) : x0_trueVoicesFrom F (nI c) S = some (nI (zon z c), S) := by
  have hn := hz.2.2.2.2.1
  unfold x0_trueVoicesFrom zon
  refine lp0 (fun f (a : Int32) i => x0_trueVoicesFrom_4 F f (nI c) a i S) (z_sn z) (fun i a => a = nI (zs (fun e => zi (ztv z e && zfr z c e)) i)) (fun o => o = some (nI (zs (fun e => zi (ztv z e && zfr z c e)) (z_sn z)), S)) (by omega) rfl (fun f a ha => ?_) (fun f i a hi ha => Or.inr ⟨_, ?_, rfl⟩)
  · change x0_trueVoicesFrom_4 F (f + 1) (nI c) a (nI (z_sn z)) S = _
    rw [x0_trueVoicesFrom_4, tt_n, h.2.1.1, if_pos (nI_le (by omega) (by omega)), ha]
  · change x0_trueVoicesFrom_4 F (f + 1) (nI c) a (nI i) S = x0_trueVoicesFrom_4 F f (nI c) _ (nI (i + 1)) S
    rw [x0_trueVoicesFrom_4, tt_n, h.2.1.1, if_neg (nI_ge hi (by omega)), tt_rd (by omega) (by omega), tt_on (sq_sg hz hi), x_tv hz h hi, tt_cI, ha, nI_1 i, zs_s]
    cases ztv z i with
    | false => rw [if_pos (zi_0 rfl), tt_n, ad_0]; rfl
    | true =>
      rw [if_neg (zi_1 rfl), tt_rd (by omega) (by omega), tt_on (sq_sg hz hi), x_fr hz h hi hc, tt_cI, Bool.true_and]
      cases zfr z c i with
      | false => rw [if_pos (zi_0 rfl), tt_n, ad_0]; rfl
      | true => rw [if_neg (zi_1 rfl), tt_n, nI_1]; rfl
theorem zs_pos {g : Nat → Nat} {i : Nat} (h : 0 < g i) : ∀ n, i < n → 0 < zs g n := by
  intro n
  induction n with
  | zero => intro q; omega
  | succ n ih =>
    intro q
    rw [zs_s]
    by_cases e : i = n
    · rw [← e]
      omega
    · have := ih (by omega)
      omega
theorem zs_mo {g g1 : Nat → Nat} : ∀ n, (∀ k, k < n → g k ≤ g1 k) → zs g n ≤ zs g1 n := by
  intro n
  induction n with
  | zero => exact fun _ => Nat.le_refl 0
  | succ n ih =>
    intro h
    rw [zs_s, zs_s]
    have h1 := ih (fun k hk => h k (by omega))
    have h2 := h n (by omega)
    omega
def zvo (z : zz) : Nat := zs (fun e => zi (ztv z e)) (z_sn z)
theorem zi_and {a b : Bool} : zi (a && b) ≤ zi a := by
  cases a <;> cases b <;> decide
theorem zon_le {z : zz} {c : Nat} : zon z c ≤ zvo z := zs_mo _ (fun _ _ => zi_and)
theorem zvo_le {z : zz} : zvo z ≤ z_sn z := zs_cn _
theorem x_any {F : Nat} {z : zz} {S : sm_t} (hF : 1000 < F) (hz : zw z) (h : xk z S.1) : x0_anyTrueVoice F S = some (nI (zi (decide (0 < zvo z))), S) := by
  have hn := hz.2.2.2.2.1
  unfold x0_anyTrueVoice
  refine lp0 (fun f (_ : Unit) i => x0_anyTrueVoice_2 F f i S) (z_sn z) (fun i _ => zs (fun e => zi (ztv z e)) i = 0) (fun o => o = some (nI (zi (decide (0 < zvo z))), S)) (a := ()) (by omega) rfl (fun f a ha => ?_) (fun f i a hi ha => ?_)
  · change x0_anyTrueVoice_2 F (f + 1) (nI (z_sn z)) S = _
    rw [x0_anyTrueVoice_2, tt_n, h.2.1.1, if_pos (nI_le (by omega) (by omega)), decide_eq_false (by unfold zvo; omega)]
    rfl
  · change x0_anyTrueVoice_2 F (f + 1) (nI i) S = _ ∨ ∃ _ : Unit, x0_anyTrueVoice_2 F (f + 1) (nI i) S = x0_anyTrueVoice_2 F f (nI (i + 1)) S ∧ zs (fun e => zi (ztv z e)) i + zi (ztv z i) = 0
    rw [x0_anyTrueVoice_2, tt_n, h.2.1.1, if_neg (nI_ge hi (by omega)), tt_rd (by omega) (by omega), tt_on (sq_sg hz hi), x_tv hz h hi, tt_cI, ha, nI_1 i]
    cases q : ztv z i with
    | false => rw [if_pos (zi_0 rfl)]; exact Or.inr ⟨(), rfl, rfl⟩
    | true =>
      rw [if_neg (zi_1 rfl), decide_eq_true (show 0 < zvo z from zs_pos (g := fun e => zi (ztv z e)) (i := i) (by show 0 < zi (ztv z i); rw [q]; decide) _ hi)]
      exact Or.inl rfl
def zmx (z : zz) : Nat → Nat × Nat
  | 0 => (0, 0)
  | c + 1 => if (zmx z c).1 < zon z c then (zon z c, c) else zmx z c
def zmn (z : zz) (n c : Nat) : Nat := zs (fun c => zi (decide (n ≤ zon z c))) c
theorem zmx_le {z : zz} : ∀ c, (zmx z c).1 ≤ zvo z ∧ (zmx z c).2 ≤ c := by
  intro c
  induction c with
  | zero => exact ⟨Nat.zero_le _, Nat.le_refl 0⟩
  | succ c ih =>
    show (if (zmx z c).1 < zon z c then (zon z c, c) else zmx z c).1 ≤ zvo z ∧ (if (zmx z c).1 < zon z c then (zon z c, c) else zmx z c).2 ≤ c + 1
    split
    · exact ⟨zon_le, Nat.le_succ c⟩
    · exact ⟨ih.1, by omega⟩
theorem x_cr38 {F n : Nat} {z : zz} {S : sm_t} (hF : 1000 < F) (hz : zw z) (h : xk z S.1) (hn1 : n < 13) : x7_cross_38 F F (nI n) 0 0 (if 0 < zvo z then 0 else -9) 0 S = some (nI (zmn z n 120), sm_wI S 3 11 (if 0 < zvo z then nI (zmx z 120).2 else -9)) := by
  have hn := hz.2.2.2.2.1
  have hv := zvo_le (z := z)
  refine lp0 (fun f (a : Int32 × Int32 × Int32) i => x7_cross_38 F f (nI n) a.1 a.2.1 a.2.2 i S) 120 (fun i a => a = (nI (zmn z n i), nI (zmx z i).1, (if 0 < zvo z then nI (zmx z i).2 else -9))) (fun o => o = some (nI (zmn z n 120), sm_wI S 3 11 (if 0 < zvo z then nI (zmx z 120).2 else -9))) (a := (0, 0, (if 0 < zvo z then 0 else -9))) (by omega) rfl (fun f a ha => ?_) (fun f i a hi ha => Or.inr ⟨_, ?_, rfl⟩)
  · subst ha
    change x7_cross_38 F (f + 1) (nI n) (nI (zmn z n 120)) _ _ 120 S = _
    rw [x7_cross_38, if_pos (by decide), tt_n]
  · subst ha
    change x7_cross_38 F (f + 1) (nI n) (nI (zmn z n i)) (nI (zmx z i).1) (if 0 < zvo z then nI (zmx z i).2 else -9) (nI i) S = x7_cross_38 F f (nI n) (nI (zmn z n i + zi (decide (n ≤ zon z i)))) (nI (if (zmx z i).1 < zon z i then (zon z i, i) else zmx z i).1) (if 0 < zvo z then nI (if (zmx z i).1 < zon z i then (zon z i, i) else zmx z i).2 else -9) (nI (i + 1)) S
    have hm := zmx_le (z := z) i
    have ho := zon_le (z := z) (c := i)
    rw [x7_cross_38, if_neg (show ¬ (120 : Int32) ≤ nI i from nI_ge (b := 120) hi (by omega)), x_tvf hF hz h hi, tt_cI, nI_1 i]
    by_cases q1 : (zmx z i).1 < zon z i
    · rw [if_neg (nI_ge q1 (by omega)), if_neg (nI_ge q1 (by omega)), if_pos q1, if_pos (show 0 < zvo z by omega)]
      by_cases q : n ≤ zon z i
      · rw [if_neg (nI_nlt q (by omega)), decide_eq_true q, nI_1 (zmn z n i)]
        rfl
      · rw [if_pos (nI_lt (by omega) (by omega)), decide_eq_false q]
        rfl
    · rw [if_pos (nI_le (by omega) (by omega)), if_pos (nI_le (by omega) (by omega)), if_neg q1]
      by_cases q : n ≤ zon z i
      · rw [if_neg (nI_nlt q (by omega)), decide_eq_true q, nI_1 (zmn z n i)]
        rfl
      · rw [if_pos (nI_lt (by omega) (by omega)), decide_eq_false q]
        rfl
theorem zct_tv {z : zz} {e : Nat} (he : e < 2147483648) : (zct z (-9) e && decide (z_sg z e 0 = 5)) = ztv z e := by
  rw [zct_9 he]
  unfold zc0 ztv
  by_cases q : z_sg z e 0 = 5
  · rw [decide_eq_true (show z_sg z e 0 ≠ 0 by omega), decide_eq_true q, Bool.and_true, Bool.and_true, Bool.true_and]
  · rw [decide_eq_false q, Bool.and_false, Bool.false_and]
theorem m_cr16 {F : Nat} {l1 : Int32} {z : zz} {T : sm_t} (hF : 1000 < F) (hz : zw z) (h : mk z T.1) (ho : T.1 52 19 = -9) : x8_cross_16 F F l1 0 0 T = x8_cross_56 F l1 (nI (zvo z)) T := by
  have hn := hz.2.2.2.2.1
  refine lp0 (fun f (a : Int32) i => x8_cross_16 F f l1 a i T) (z_sn z) (fun i a => a = nI (zs (fun e => zi (ztv z e)) i)) (fun o => o = x8_cross_56 F l1 (nI (zvo z)) T) (by omega) rfl (fun f a ha => ?_) (fun f i a hi ha => Or.inr ⟨_, ?_, rfl⟩)
  · change x8_cross_16 F (f + 1) l1 a (nI (z_sn z)) T = _
    rw [x8_cross_16, tt_n, h.2.1.1, if_pos (nI_le (by omega) (by omega)), ha]
    rfl
  · change x8_cross_16 F (f + 1) l1 a (nI i) T = x8_cross_16 F f l1 _ (nI (i + 1)) T
    have hs := sg_lt hz hi
    have e0 : x8_tell F (nI i) 0 T = some (nI (z_sg z i 0), T) := k_tell hz h hi (i := 0) (by omega)
    rw [x8_cross_16, tt_n, h.2.1.1, if_neg (nI_ge hi (by omega)), m_cts hz h ho hi, tt_cI, e0, tt_cI, ha, nI_1 i, zs_s, ← zct_tv (by omega)]
    cases zct z (-9) i with
    | false => rw [if_pos (zi_0 rfl), tt_n, ad_0, Bool.false_and]; rfl
    | true =>
      rw [if_neg (zi_1 rfl), Bool.true_and]
      by_cases q : z_sg z i 0 = 5
      · rw [if_pos (show nI (z_sg z i 0) = 5 by rw [q]; rfl), tt_n, nI_1, decide_eq_true q]; rfl
      · rw [if_neg (show ¬ nI (z_sg z i 0) = 5 from fun p => q ((nI_eq (b := 5) (by omega) (by omega)).mp p)), tt_n, ad_0, decide_eq_false q]; rfl
theorem m_cr82 {F c : Nat} {l1 l2 l3 l4 l5 : Int32} {c69 : Int32 → Int32 → Int32 → Int32 → Int32 → Int32 → sm_t → Option (Int32 × sm_t)} {z : zz} {T : sm_t} (hF : 1000 < F) (hz : zw z) (h : mk z T.1) (ho : T.1 52 19 = -9) (hc : c < 120) : x8_cross_82 F c69 F l1 l2 l3 l4 l5 (nI c) 0 0 T = x8_cross_149 F c69 l1 l2 l3 l4 l5 (nI c) (nI (zon z c)) T := by
  have hn := hz.2.2.2.2.1
  refine lp0 (fun f (a : Int32) i => x8_cross_82 F c69 f l1 l2 l3 l4 l5 (nI c) a i T) (z_sn z) (fun i a => a = nI (zs (fun e => zi (ztv z e && zfr z c e)) i)) (fun o => o = x8_cross_149 F c69 l1 l2 l3 l4 l5 (nI c) (nI (zon z c)) T) (by omega) rfl (fun f a ha => ?_) (fun f i a hi ha => Or.inr ⟨_, ?_, rfl⟩)
  · change x8_cross_82 F c69 (f + 1) l1 l2 l3 l4 l5 (nI c) a (nI (z_sn z)) T = _
    rw [x8_cross_82, tt_n, h.2.1.1, if_pos (nI_le (by omega) (by omega)), ha]
    rfl
  · change x8_cross_82 F c69 (f + 1) l1 l2 l3 l4 l5 (nI c) a (nI i) T = x8_cross_82 F c69 f l1 l2 l3 l4 l5 (nI c) _ (nI (i + 1)) T
    have hs := sg_lt hz hi
    have e0 : x8_tell F (nI i) 0 T = some (nI (z_sg z i 0), T) := k_tell hz h hi (i := 0) (by omega)
    have e1 : x8_tell F (nI i) 1 T = some (nI (z_sg z i 1), T) := k_tell hz h hi (i := 1) (by omega)
    have e2 : x8_tell F (nI i) 2 T = some (nI (z_sg z i 2), T) := k_tell hz h hi (i := 2) (by omega)
    rw [x8_cross_82, tt_n, h.2.1.1, if_neg (nI_ge hi (by omega)), m_cts hz h ho hi, tt_cI, e0, tt_cI, e1, tt_cI, m_side (by omega) (by omega), tt_cI, e2, tt_cI, ha, nI_1 i, zs_s, ← zct_tv (by omega)]
    cases zct z (-9) i with
    | false => rw [if_pos (zi_0 rfl), tt_n, ad_0, Bool.false_and, Bool.false_and]; rfl
    | true =>
      rw [if_neg (zi_1 rfl), Bool.true_and]
      by_cases q : z_sg z i 0 = 5
      · rw [if_pos (show nI (z_sg z i 0) = 5 by rw [q]; rfl), decide_eq_true q, Bool.true_and]
        unfold zfr
        by_cases q1 : zsd (z_sg z i 1) c = nI (z_sg z i 2)
        · rw [if_pos q1, tt_n, nI_1, decide_eq_true q1]; rfl
        · rw [if_neg q1, tt_n, ad_0, decide_eq_false q1]; rfl
      · rw [if_neg (show ¬ nI (z_sg z i 0) = 5 from fun p => q ((nI_eq (b := 5) (by omega) (by omega)).mp p)), tt_n, ad_0, decide_eq_false q, Bool.false_and]; rfl
theorem m_cr69 {F n : Nat} {z : zz} {T : sm_t} (hF : 1000 < F) (hz : zw z) (h : mk z T.1) (ho : T.1 52 19 = -9) (hn1 : n < 13) : x8_cross_69 F F (nI n) (nI (zvo z)) 0 (-9) (-9) 0 T = some (nI (zmn z n 120), sm_wI T 52 2 (if 0 < zvo z then nI (zmx z 120).2 else -9)) := by
  have hn := hz.2.2.2.2.1
  have hv := zvo_le (z := z)
  refine lp0 (fun f (a : Int32 × Int32 × Int32) i => x8_cross_69 F f (nI n) (nI (zvo z)) a.1 a.2.1 a.2.2 i T) 120 (fun i a => a.1 = nI (zmn z n i) ∧ (i = 0 ∧ a.2 = (-9, -9) ∨ 0 < i ∧ a.2 = (nI (zmx z i).2, nI (zmx z i).1))) (fun o => o = some (nI (zmn z n 120), sm_wI T 52 2 (if 0 < zvo z then nI (zmx z 120).2 else -9))) (a := (0, -9, -9)) (by omega) ⟨rfl, Or.inl ⟨rfl, rfl⟩⟩ (fun f a ha => ?_) (fun f i a hi ha => Or.inr ⟨(nI (zmn z n (i + 1)), nI (zmx z (i + 1)).2, nI (zmx z (i + 1)).1), ?_, rfl, Or.inr ⟨by omega, rfl⟩⟩)
  · obtain ⟨a1, a2⟩ := a
    obtain ⟨h1, h2 | ⟨-, h2⟩⟩ := ha
    · omega
    · change a1 = _ at h1
      change a2 = _ at h2
      subst h1 h2
      change x8_cross_69 F (f + 1) (nI n) (nI (zvo z)) (nI (zmn z n 120)) (nI (zmx z 120).2) _ 120 T = _
      rw [x8_cross_69, if_pos (by decide)]
      unfold x8_cross_201
      by_cases q : 0 < zvo z
      · rw [if_neg (nI_ne0 q (by omega)), if_pos q, x_ak2, tt_cI]
      · rw [if_pos (show nI (zvo z) = 0 by rw [show zvo z = 0 by omega]; rfl), if_neg q, x_ak2, tt_cI]
  · obtain ⟨a1, a2⟩ := a
    obtain ⟨h1, h2⟩ := ha
    change a1 = _ at h1
    subst h1
    change x8_cross_69 F (f + 1) (nI n) (nI (zvo z)) (nI (zmn z n i)) a2.1 a2.2 (nI i) T = x8_cross_69 F f (nI n) (nI (zvo z)) (nI (zmn z n i + zi (decide (n ≤ zon z i)))) (nI (if (zmx z i).1 < zon z i then (zon z i, i) else zmx z i).2) (nI (if (zmx z i).1 < zon z i then (zon z i, i) else zmx z i).1) (nI (i + 1)) T
    have hm := zmx_le (z := z) i
    have ho2 := zon_le (z := z) (c := i)
    rw [x8_cross_69, if_neg (show ¬ (120 : Int32) ≤ nI i from nI_ge (b := 120) hi (by omega)), m_cr82 hF hz h ho hi]
    have k1 : x8_cross_149 F (x8_cross_69 F f) (nI n) (nI (zvo z)) (nI (zmn z n i)) a2.1 a2.2 (nI i) (nI (zon z i)) T = x8_cross_161 F (x8_cross_69 F f) (nI n) (nI (zvo z)) a2.1 a2.2 (nI i) (nI (zon z i)) (nI (zmn z n i)) (nI (zi (decide (n ≤ zon z i)))) T := by
      unfold x8_cross_149
      by_cases q : n ≤ zon z i
      · rw [if_neg (nI_nlt q (by omega)), decide_eq_true q]
        rfl
      · rw [if_pos (nI_lt (by omega) (by omega)), decide_eq_false q]
        rfl
    rw [k1]
    unfold x8_cross_161
    rw [tt_n, nI_add, nI_1 i]
    rcases h2 with ⟨rfl, h2⟩ | ⟨h0, h2⟩
    · change a2 = _ at h2
      subst h2
      have q : ¬ nI (zon z 0) ≤ -9 := by
        rw [tt_le, tt_nI (by omega), tt_neg9]
        omega
      rw [if_neg q, if_neg q]
      show x8_cross_69 F f (nI n) (nI (zvo z)) _ (nI 0) (nI (zon z 0)) (nI (0 + 1)) T = _
      by_cases q1 : (zmx z 0).1 < zon z 0
      · rw [if_pos q1]
      · rw [if_neg q1]
        have : zon z 0 = 0 := by
          have : (zmx z 0).1 = 0 := rfl
          omega
        rw [this]
        rfl
    · change a2 = _ at h2
      subst h2
      by_cases q1 : (zmx z i).1 < zon z i
      · rw [if_neg (nI_ge q1 (by omega)), if_neg (nI_ge q1 (by omega)), if_pos q1]
      · rw [if_pos (nI_le (by omega) (by omega)), if_pos (nI_le (by omega) (by omega)), if_neg q1]
theorem q_cross {z : zz} {J K S T : sm_t} (hz : zw z) (hx : xi z J S) (hm : mi z K T) {F : Nat} (hF : 1000 < F) (n : Int32) : bt J K (x7_cross F n S) (x8_cross F n T) := by
  have hv := zvo_le (z := z)
  unfold x7_cross x8_cross
  rcases tt_from n 1 12 (by omega) with ⟨n, h1, h2, rfl⟩ | h
  · have ho : T.1 52 19 = -9 := hm.2.2.2.2.2.2.2.2.2
    rw [show x8_in F (nI n) 1 12 T = some (1, T) from m_inAB (a := 1) (b := 12) h1 h2 (by omega), tt_cI, if_neg n10, if_neg (show ¬ nI n < 1 from nI_nlt (b := 1) h1 (by omega)), if_pos (show nI n ≤ 12 from nI_le (b := 12) h2 (by omega)), x_any hF hz (xk_of hx), tt_cI, m_cr16 hF hz (mk_of hm) ho]
    unfold x8_cross_56
    rw [m_cr69 hF hz (mk_of hm) ho (by omega)]
    have e := x_cr38 (n := n) hF hz (xk_of hx) (by omega)
    by_cases q : 0 < zvo z
    · rw [if_pos q] at e
      rw [decide_eq_true q, if_neg (zi_1 rfl), e]
      exact bt_ak hz hx hm _ _
    · rw [if_neg q] at e
      rw [decide_eq_false q, if_pos (zi_0 rfl), e]
      exact bt_ak hz hx hm _ _
  · rw [show x8_in F n 1 12 T = some (0, T) from m_inABN (a := 1) (b := 12) h (by omega) (by omega), tt_cI, if_pos p00]
    have b := bt_same hz hx hm (-1)
    by_cases q : n < 1
    · rw [if_pos q]
      exact b
    · rw [if_neg q, if_neg]
      · exact b
      · rw [tt_lt] at q
        rw [tt_le]
        simp only [Int32.reduceToInt] at q ⊢
        omega
