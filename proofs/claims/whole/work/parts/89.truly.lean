/-! ===== truly, line, turns ===== -/
def ztr (z : zz) (k e : Nat) : Nat → Nat := zs (fun c => if zfr z c e = true then zw_ z k (-9) c else 0)
theorem ztr_le {z : zz} {k e : Nat} : ztr z k e 120 ≤ za_ z k (-9) := zs_mo 120 (fun c _ => by
  show (if zfr z c e = true then zw_ z k (-9) c else 0) ≤ _
  split <;> omega)
theorem x_tr74 {F k e : Nat} {z : zz} {S : sm_t} (hF : 1000 < F) (hz : zw z) (hk : xk z S.1) (he : e < z_sn z) (hw : ∀ c, c < 120 → S.2.1 40 c = lN (zw_ z k (-9) c)) : x7_truly_74 F F (nI e) 0 0 S = x7_truly_119 F (lN (ztr z k e 120)) S := by
  have hn := hz.2.2.2.2.1
  refine lp0 (fun f (a : Int64) i => x7_truly_74 F f (nI e) a i S) 120 (fun i a => a = lN (ztr z k e i)) (fun r => r = x7_truly_119 F (lN (ztr z k e 120)) S) (f := F) (a := 0) (by omega) rfl (fun f a ha => ?_) (fun f i a hi ha => Or.inr ⟨_, ?_, rfl⟩)
  · change x7_truly_74 F (f + 1) (nI e) a 120 S = _
    rw [x7_truly_74, if_pos (by decide), ha]
  · change x7_truly_74 F (f + 1) (nI e) a (nI i) S = x7_truly_74 F f (nI e) (lN (ztr z k e i + if zfr z i e = true then zw_ z k (-9) i else 0)) (nI (i + 1)) S
    rw [x7_truly_74, if_neg (show ¬ (120 : Int32) ≤ nI i from nI_ge (b := 120) hi (by omega)), tt_rd (by omega) (by omega), tt_on (sq_sg hz he), x_fr hz hk he hi, tt_cI, ha, nI_1]
    cases zfr z i e with
    | false => rw [if_pos (zi_0 rfl), if_neg (by decide)]; rfl
    | true => rw [if_neg (zi_1 rfl), if_pos rfl, tt_r _ (hw i hi) hi (by omega), tt_n, lN_add]
theorem m_tr67 {F k e : Nat} {z : zz} {T : sm_t} (hF : 1000 < F) (hz : zw z) (hk : mk z T.1) (he : e < z_sn z) (hw : ∀ c, c < 120 → T.2.1 66 c = lN (zw_ z k (-9) c)) : x8_truly_67 F F (nI e) 0 0 T = x8_truly_116 F (lN (ztr z k e 120)) T := by
  have hn := hz.2.2.2.2.1
  have hs := sg_lt hz he
  have e1 : x8_tell F (nI e) 1 T = some (nI (z_sg z e 1), T) := k_tell hz hk he (i := 1) (by omega)
  have e2 : x8_tell F (nI e) 2 T = some (nI (z_sg z e 2), T) := k_tell hz hk he (i := 2) (by omega)
  refine lp0 (fun f (a : Int64) i => x8_truly_67 F f (nI e) a i T) 120 (fun i a => a = lN (ztr z k e i)) (fun r => r = x8_truly_116 F (lN (ztr z k e 120)) T) (f := F) (a := 0) (by omega) rfl (fun f a ha => ?_) (fun f i a hi ha => Or.inr ⟨_, ?_, rfl⟩)
  · change x8_truly_67 F (f + 1) (nI e) a 120 T = _
    rw [x8_truly_67, if_pos (by decide), ha]
  · change x8_truly_67 F (f + 1) (nI e) a (nI i) T = x8_truly_67 F f (nI e) (lN (ztr z k e i + if zfr z i e = true then zw_ z k (-9) i else 0)) (nI (i + 1)) T
    rw [x8_truly_67, if_neg (show ¬ (120 : Int32) ≤ nI i from nI_ge (b := 120) hi (by omega)), e1, tt_cI, m_side (by omega) (by omega), tt_cI, e2, tt_cI, ha, nI_1]
    unfold zfr
    by_cases q : zsd (z_sg z e 1) i = nI (z_sg z e 2)
    · rw [if_pos q, decide_eq_true q, if_pos rfl, tt_r _ (hw i hi) hi (by omega), tt_n, lN_add]
    · rw [if_neg q, decide_eq_false q, if_neg (by decide), tt_n, Int64.add_zero]
      rfl
theorem q_truly {z : zz} {J K S T : sm_t} (hz : zw z) (hx : xi z J S) (hm : mi z K T) {F : Nat} (hF : 1000 < F) (k e : Int32) : bt J K (x7_truly F k e S) (x8_truly F k e T) := by
  have hn := hz.2.2.2.2.1
  have bb := bt_same hz hx hm (-1)
  unfold x7_truly x8_truly
  rcases tt_below e (z_sn z) (by omega) with ⟨e, he, rfl⟩ | h
  · rw [m_has1 hz hm he, tt_cI, if_neg n10]
    rcases tt_below k 4 (by omega) with ⟨k, hk, rfl⟩ | h
    · have hs := sg_lt hz he
      rw [x_st1 hk, tt_cI, if_neg n10, x_has1 hz hx he, tt_cI, if_neg n10, m_st1 hk, tt_cI, if_neg n10]
      rcases b_ms (F := F) hz hx hm hk with ⟨c1, c2⟩ | ⟨hst, c1, c2⟩
      · rw [c1, c2, tt_cI, tt_cI, if_neg n10, if_neg (by decide), x_f1, tt_cI]
        exact bt_fd hz hx hm (by omega)
      · have e0 : x8_tell F (nI e) 0 T = some (nI (z_sg z e 0), T) := m_tell hz hm he (i := 0) (by omega)
        rw [c1, c2, tt_cI, tt_cI, if_pos p00, if_pos (show (0 : Int32) ≤ 0 by decide), tt_rd (by omega) (by omega), tt_on (sq_sg hz he), e0, tt_cI]
        have hv : x6_is F (24 + e) 5 S = some (nI (zi (decide (z_sg z e 0 = 5 ∨ z_sg z e 0 = 6))), S) ∧ x8_isVoice F (nI (z_sg z e 0)) T = some (nI (zi (decide (z_sg z e 0 = 5 ∨ z_sg z e 0 = 6))), T) := by
          unfold x6_is x8_isVoice
          rw [tt_on (sq_sg hz he), tt_n, tt_n, x_sgn hx he (by omega)]
          by_cases q5 : z_sg z e 0 = 5
          · have : nI (z_sg z e 0) = 5 := by rw [q5]; rfl
            rw [if_pos this, if_pos this, decide_eq_true (Or.inl q5)]
            exact ⟨rfl, rfl⟩
          · have : ¬ nI (z_sg z e 0) = 5 := fun p => q5 ((nI_eq (b := 5) (by omega) (by omega)).mp p)
            rw [if_neg this, if_neg this]
            by_cases q6 : z_sg z e 0 = 6
            · have : nI (z_sg z e 0) = 6 := by rw [q6]; rfl
              rw [if_pos this, if_pos this, if_pos rfl, decide_eq_true (Or.inr q6)]
              exact ⟨rfl, rfl⟩
            · have : ¬ nI (z_sg z e 0) = 6 := fun p => q6 ((nI_eq (b := 6) (by omega) (by omega)).mp p)
              rw [if_neg this, if_neg this, decide_eq_false (by omega)]
              exact ⟨rfl, rfl⟩
        rw [hv.1, hv.2, tt_cI, tt_cI]
        by_cases q : z_sg z e 0 = 5 ∨ z_sg z e 0 = 6
        · rw [decide_eq_true q, if_neg (zi_1 rfl), if_neg (zi_1 rfl)]
          rcases b_weigh (F := F) hz hx hm hF hk with ⟨v, z1, S1, T1, v0, v1, e1, e2, a1, a2, a3⟩ | ⟨S1, T1, e1, e2, a1, a2, a3, a4, a5, a6, -, -⟩
          · rw [e1, e2, tt_cI, tt_cI, if_neg v0, if_neg v1]
            exact bt_same a1 a2 a3 _
          · have hl := ztr_le (z := z) (k := k) (e := e)
            obtain ⟨u, l, f1, f2⟩ := b_fr (ans := 1) (S := S1) (T := T1) hF (show ztr z k e 120 < 2 ^ 63 by omega) a5 (by omega)
            rw [e1, e2, tt_cI, tt_cI, if_pos p00, if_pos (show (0 : Int32) ≤ 0 by decide), x_tr74 hF hz (xk_of a1) he a3.1, m_tr67 hF hz (mk_of a2) he a4.1]
            unfold x7_truly_119 x8_truly_116
            rw [tt_n, a3.2.1, f1, tt_cV, tt_n, a4.2.1, f2, tt_cI]
            exact bt_F hz a1 a2 _ _ _
        · rw [decide_eq_false q, if_pos (zi_0 rfl), if_pos (zi_0 rfl), x_f3, m_f3, tt_cI, tt_cI]
          exact bt_fd hz hx hm (by omega)
    · rw [x_st0 h, tt_cI, if_pos p00, m_st0 h, tt_cI, if_pos p00]
      exact bb
  · rw [m_has0 hz hm h, tt_cI, if_pos p00]
    rcases tt_below k 4 (by omega) with ⟨k, hk, rfl⟩ | h2
    · rw [x_st1 hk, tt_cI, if_neg n10, x_has0 hz hx h, tt_cI, if_pos p00]
      exact bb
    · rw [x_st0 h2, tt_cI, if_pos p00]
      exact bb
/-! line -/
def lw (f : Nat → Nat) (s : Nat) : Nat → Option Nat → Nat
  | 0, _ => 0
  | _ + 1, none => 0
  | k + 1, some c => f c + lw f s k (znx c s)
def lc (s : Nat) : Nat → Option Nat → Nat
  | 0, _ => 0
  | _ + 1, none => 0
  | k + 1, some c => 1 + lc s k (znx c s)
theorem lw_le {f : Nat → Nat} {s B : Nat} (hs : s < 8) (h : ∀ c, c < 120 → f c ≤ B) : ∀ k o, (∀ c, o = some c → c < 120) → lw f s k o ≤ k * B := by
  intro k
  induction k with
  | zero => exact fun o _ => Nat.zero_le _
  | succ k ih =>
    intro o ho
    cases o with
    | none => exact Nat.zero_le _
    | some c =>
      have hc := ho c rfl
      have h1 := ih (znx c s) (fun d hd => znx_lt c hc s hs d hd)
      have h2 := h c hc
      show f c + lw f s k (znx c s) ≤ (k + 1) * B
      rw [Nat.succ_mul]
      omega
theorem x_wb12 {F s : Nat} {f : Nat → Nat} {S : sm_t} (hs : s < 8) (h : ∀ c, c < 120 → S.2.1 40 c = lN (f c)) : ∀ (k m i a : Nat) (o : Option Nat), (∀ c, o = some c → c < 120) → i + k = 12 → k < m → x2_weightBehind_12 F m (nI s) (lN a) (z_m o) (nI i) S = some (lN (a + lw f s k o), S) := by
  intro k
  induction k with
  | zero =>
    intro m i a o ho h1 h2
    obtain ⟨m, rfl⟩ : ∃ f0, m = f0 + 1 := ⟨m - 1, by omega⟩
    rw [x2_weightBehind_12, if_pos (show (12 : Int32) ≤ nI i from nI_le (a := 12) (by omega) (by omega))]
    rfl
  | succ k ih =>
    intro m i a o ho h1 h2
    obtain ⟨m, rfl⟩ : ∃ f0, m = f0 + 1 := ⟨m - 1, by omega⟩
    rw [x2_weightBehind_12, if_neg (show ¬ (12 : Int32) ≤ nI i from nI_ge (b := 12) (by omega) (by omega))]
    cases o with
    | none =>
      rw [if_pos (show z_m none = -9 from rfl)]
      rfl
    | some c =>
      have hc := ho c rfl
      rw [show z_m (some c) = nI c from rfl, if_neg (ne_9 (by omega)), tt_r _ (h c hc) hc (by omega), tt_n, lN_add, x_beside hc hs, tt_cI, nI_1, ih m (i + 1) _ (znx c s) (fun d hd => znx_lt c hc s hs d hd) (by omega) (by omega)]
      show _ = some (lN (a + (f c + lw f s k (znx c s))), S)
      rw [Nat.add_assoc]
theorem x_mb11 {F s : Nat} {S : sm_t} (hs : s < 8) : ∀ (k m i a : Nat) (o : Option Nat), (∀ c, o = some c → c < 120) → i + k = 12 → k < m → x1_manyBehind_11 F m (nI s) (nI a) (z_m o) (nI i) S = some (nI (a + lc s k o), S) := by
  intro k
  induction k with
  | zero =>
    intro m i a o ho h1 h2
    obtain ⟨m, rfl⟩ : ∃ f0, m = f0 + 1 := ⟨m - 1, by omega⟩
    rw [x1_manyBehind_11, if_pos (show (12 : Int32) ≤ nI i from nI_le (a := 12) (by omega) (by omega))]
    rfl
  | succ k ih =>
    intro m i a o ho h1 h2
    obtain ⟨m, rfl⟩ : ∃ f0, m = f0 + 1 := ⟨m - 1, by omega⟩
    rw [x1_manyBehind_11, if_neg (show ¬ (12 : Int32) ≤ nI i from nI_ge (b := 12) (by omega) (by omega))]
    cases o with
    | none =>
      rw [if_pos (show z_m none = -9 from rfl)]
      rfl
    | some c =>
      have hc := ho c rfl
      rw [show z_m (some c) = nI c from rfl, if_neg (ne_9 (by omega)), x_beside hc hs, tt_cI, nI_1, nI_1, ih m (i + 1) _ (znx c s) (fun d hd => znx_lt c hc s hs d hd) (by omega) (by omega)]
      show _ = some (nI (a + (1 + lc s k (znx c s))), S)
      rw [Nat.add_assoc]
theorem m_l65 {F c0 s s' w : Nat} {f : Nat → Nat} {T : sm_t} {c45 : Int32 → Int32 → Int64 → Int32 → Int32 → sm_t → Option (Int32 × sm_t)} (hs' : s' < 8) (ht : x8_turned F (nI s) (4 * nI w) T = some (nI s', T)) (h : ∀ c, c < 120 → T.2.1 66 c = lN (f c)) : ∀ (k m a b : Nat) (o : Option Nat), (∀ c, o = some c → c < 120) → zit s' k o = none → k < m → x8_line_65 F c45 m (nI c0) (nI s) (lN a) (nI b) (nI w) (z_m o) T = c45 (nI c0) (nI s) (lN (a + lw f s' k o)) (nI (b + lc s' k o)) (nI (w + 1)) T := by
  intro k
  induction k with
  | zero =>
    intro m a b o ho hi h2
    obtain ⟨m, rfl⟩ : ∃ f0, m = f0 + 1 := ⟨m - 1, by omega⟩
    obtain rfl : o = none := hi
    rw [x8_line_65, if_pos (by decide), nI_1]
    rfl
  | succ k ih =>
    intro m a b o ho hi h2
    obtain ⟨m, rfl⟩ : ∃ f0, m = f0 + 1 := ⟨m - 1, by omega⟩
    cases o with
    | none =>
      rw [x8_line_65, if_pos (by decide), nI_1]
      rfl
    | some c =>
      have hc := ho c rfl
      rw [x8_line_65, show z_m (some c) = nI c from rfl, if_neg (nI_pos (by omega)), tt_r _ (h c hc) hc (by omega), tt_n, lN_add, ht, tt_cI, m_next hc hs', tt_cI, nI_1 b, ih m _ _ (znx c s') (fun d hd => znx_lt c hc s' hs' d hd) hi (by omega)]
      show _ = c45 (nI c0) (nI s) (lN (a + (f c + lw f s' k (znx c s')))) (nI (b + (1 + lc s' k (znx c s')))) (nI (w + 1)) T
      rw [Nat.add_assoc, Nat.add_assoc]
theorem zit_12b : ∀ c, c < 120 → ∀ s, s < 8 → zit s 12 (znx c s) = none := by decide +kernel
theorem q_line {z : zz} {J K S T : sm_t} (hz : zw z) (hx : xi z J S) (hm : mi z K T) {F : Nat} (hF : 1000 < F) (k c s : Int32) : bt J K (x7_line F k c s S) (x8_line F k c s T) := by
  have bb := bt_same hz hx hm (-1)
  unfold x7_line x8_line
  rcases tt_below c 120 (by omega) with ⟨c, hc, rfl⟩ | h
  · rcases tt_side s with ⟨s, hs, rfl⟩ | h
    · rw [m_cell1 hc, tt_cI, if_neg n10, m_side1 hs, tt_cI, if_neg n10]
      rcases tt_below k 4 (by omega) with ⟨k, hk, rfl⟩ | h
      · rw [x_st1 hk, tt_cI, if_neg n10, x_cell1 hc, tt_cI, if_neg n10, x_side1 hs, tt_cI, if_neg n10]
        rcases b_weigh (F := F) hz hx hm hF hk with ⟨v, z1, S1, T1, v0, v1, e1, e2, a1, a2, a3⟩ | ⟨S1, T1, e1, e2, a1, a2, a3, a4, a5, a6, -, -⟩
        · rw [e1, e2, tt_cI, tt_cI, if_neg v0, if_neg v1]
          exact bt_same a1 a2 a3 _
        · have hs4 : (s + 4) % 8 < 8 := Nat.mod_lt _ (by omega)
          have hz6 : ∀ d, d < 120 → zw_ z k (-9) d ≤ za_ z k (-9) := fun d hd => zw_le hd
          have on1 : ∀ s', s' < 8 → ∀ d, znx c s' = some d → d < 120 := fun s' hs' d hd => znx_lt c hc s' hs' d hd
          have l1 := lw_le (f := zw_ z k (-9)) hs hz6 12 (znx c s) (on1 s hs)
          have l2 := lw_le (f := zw_ z k (-9)) hs4 hz6 12 (znx c ((s + 4) % 8)) (on1 _ hs4)
          have l0 := hz6 c hc
          have wb : ∀ s', s' < 8 → ∀ S' : sm_t, (∀ c, c < 120 → S'.2.1 40 c = lN (zw_ z k (-9) c)) → x2_weightBehind F (nI c) (nI s') S' = some (lN (lw (zw_ z k (-9)) s' 12 (znx c s')), S') := fun s' hs' S' hS' => by
            unfold x2_weightBehind
            rw [x_beside hc hs', tt_cI]
            have := x_wb12 (F := F) (S := S') hs' hS' 12 F 0 0 (znx c s') (on1 s' hs') (by omega) (by omega)
            rw [Nat.zero_add] at this
            exact this
          have mb : ∀ s', s' < 8 → ∀ S' : sm_t, x1_manyBehind F (nI c) (nI s') S' = some (nI (lc s' 12 (znx c s')), S') := fun s' hs' S' => by
            unfold x1_manyBehind
            rw [x_beside hc hs', tt_cI]
            have := x_mb11 (F := F) (S := S') hs' 12 F 0 0 (znx c s') (on1 s' hs') (by omega) (by omega)
            rw [Nat.zero_add] at this
            exact this
          have t4 : x1_turned F (nI s) 4 S1 = some (nI ((s + 4) % 8), S1) := by
            unfold x1_turned
            rw [(tu_1 s hs).2.2.2.2.2.1]
          have u0 : x8_turned F (nI s) (4 * nI 0) T1 = some (nI s, T1) := m_tu0 hs
          have u1 : x8_turned F (nI s) (4 * nI 1) T1 = some (nI ((s + 4) % 8), T1) := by
            show x8_turned F (nI s) 4 T1 = _
            unfold x8_turned
            rw [(tu_1 s hs).2.2.2.2.2.2]
          have e45 : x8_line_45 F F (nI c) (nI s) (lN (zw_ z k (-9) c)) (nI 1) (nI 0) T1 = x8_line_109 F (lN (zw_ z k (-9) c + lw (zw_ z k (-9)) s 12 (znx c s) + lw (zw_ z k (-9)) ((s + 4) % 8) 12 (znx c ((s + 4) % 8)))) (nI (1 + lc s 12 (znx c s) + lc ((s + 4) % 8) 12 (znx c ((s + 4) % 8)))) T1 := by
            obtain ⟨f, hf⟩ : ∃ f, F = f + 1 + 1 + 1 := ⟨F - 3, by omega⟩
            have st : ∀ m w s' a b, s' < 8 → x8_turned F (nI s) (4 * nI w) T1 = some (nI s', T1) → w < 2 → x8_line_45 F (m + 1) (nI c) (nI s) (lN a) (nI b) (nI w) T1 = x8_line_45 F m (nI c) (nI s) (lN (a + lw (zw_ z k (-9)) s' 12 (znx c s'))) (nI (b + lc s' 12 (znx c s'))) (nI (w + 1)) T1 := by
              intro m w s' a b hs' hu hw2
              rw [x8_line_45, if_neg (show ¬ (2 : Int32) ≤ nI w from nI_ge (b := 2) hw2 (by omega)), hu, tt_cI, m_next hc hs', tt_cI]
              exact m_l65 hs' hu a4.1 12 F a b (znx c s') (on1 s' hs') (zit_12b c hc s' hs') (by omega)
            have s1 := st (f + 1 + 1) 0 s (zw_ z k (-9) c) 1 hs u0 (by omega)
            have s2 := st (f + 1) 1 ((s + 4) % 8) (zw_ z k (-9) c + lw (zw_ z k (-9)) s 12 (znx c s)) (1 + lc s 12 (znx c s)) hs4 u1 (by omega)
            rw [← hf] at s1
            rw [s1, s2, x8_line_45, if_pos (by decide)]
          obtain ⟨u, l, f1, f2⟩ := b_fr (ans := nI (1 + lc s 12 (znx c s) + lc ((s + 4) % 8) 12 (znx c ((s + 4) % 8)))) (S := S1) (T := T1) hF (show zw_ z k (-9) c + lw (zw_ z k (-9)) s 12 (znx c s) + lw (zw_ z k (-9)) ((s + 4) % 8) 12 (znx c ((s + 4) % 8)) < 2 ^ 63 by omega) a5 (by omega)
          rw [e1, e2, tt_cI, tt_cI, if_pos p00, if_pos (show (0 : Int32) ≤ 0 by decide), t4, tt_cI, tt_r _ (a3.1 c hc) hc (by omega), wb s hs S1 a3.1, tt_cL, wb _ hs4 S1 a3.1, tt_cL, tt_n, lN_add, lN_add, tt_n, a3.2.1, f1, tt_cV, mb s hs, tt_cI, mb _ hs4, tt_cI, tk_a1, nI_add, tt_r _ (a4.1 c hc) hc (by omega), show x8_line_45 F F (nI c) (nI s) (lN (zw_ z k (-9) c)) 1 0 T1 = _ from e45]
          unfold x8_line_109
          rw [tt_n, a4.2.1, f2, tt_cI]
          exact bt_F hz a1 a2 _ _ _
      · rw [x_st0 h, tt_cI, if_pos p00, m_wk0 h]
        exact bb
    · rw [m_cell1 hc, tt_cI, if_neg n10, m_side0 h, tt_cI, if_pos p00]
      rcases tt_below k 4 (by omega) with ⟨k, hk, rfl⟩ | h2
      · rw [x_st1 hk, tt_cI, if_neg n10, x_cell1 hc, tt_cI, if_neg n10, x_side0 h, tt_cI, if_pos p00]
        exact bb
      · rw [x_st0 h2, tt_cI, if_pos p00]
        exact bb
  · rw [m_cell0 h, tt_cI, if_pos p00]
    rcases tt_below k 4 (by omega) with ⟨k, hk, rfl⟩ | h2
    · rw [x_st1 hk, tt_cI, if_neg n10, x_cell0 h, tt_cI, if_pos p00]
      exact bb
    · rw [x_st0 h2, tt_cI, if_pos p00]
      exact bb
/-! turns -/
def tb (z : zz) (k : Nat) (mo : Int32) : Nat → Int32
  | 0 => 0
  | e + 1 => if zc0 z e = true then (if za_ z k (nI e) = 0 then tb z k mo e ||| 0 else if nI (bg (fun c => lN (zw_ z k (nI e) c)) 119) = mo then tb z k mo e ||| 0 else tb z k mo e ||| (1 <<< (nI e &&& 31))) else tb z k mo e
theorem x_t57 {F k : Nat} {mo : Int32} {z : zz} {J S : sm_t} (hF : 1000 < F) (hz : zw z) (hx : xi z J S) (hk : k < 4) (hst : k ≠ 0 → (z_st z k).isSome = true) (hb : zbusy z ≤ 6) (hmo : za_ z k (-9) = 0 → mo = -9) : ∃ S1, x7_turns_57 F F (nI k) mo 0 0 S = some (tb z k mo (z_sn z), S1) ∧ xi z J S1 := by
  have hn := hz.2.2.2.2.1
  refine lp0 (fun f (p : Int32 × sm_t) i => x7_turns_57 F f (nI k) mo p.1 i p.2) (z_sn z) (fun i p => p.1 = tb z k mo i ∧ xi z J p.2) (fun r => ∃ S1, r = some (tb z k mo (z_sn z), S1) ∧ xi z J S1) (f := F) (a := (0, S)) (by omega) ⟨rfl, hx⟩ (fun f p hp => ⟨p.2, ?_, hp.2⟩) (fun f e p he hp => Or.inr ?_)
  · change x7_turns_57 F (f + 1) (nI k) mo p.1 (nI (z_sn z)) p.2 = _
    rw [x7_turns_57, tt_n, (xk_of hp.2).2.1.1, if_pos (nI_le (by omega) (by omega)), hp.1]
  · obtain ⟨p1, p2⟩ := p
    obtain ⟨h1, h2⟩ := hp
    change p1 = _ at h1
    change xi z J p2 at h2
    subst h1
    change ∃ q : Int32 × sm_t, x7_turns_57 F (f + 1) (nI k) mo (tb z k mo e) (nI e) p2 = x7_turns_57 F f (nI k) mo q.1 (nI (e + 1)) q.2 ∧ q.1 = (if zc0 z e = true then (if za_ z k (nI e) = 0 then tb z k mo e ||| 0 else if nI (bg (fun c => lN (zw_ z k (nI e) c)) 119) = mo then tb z k mo e ||| 0 else tb z k mo e ||| (1 <<< (nI e &&& 31))) else tb z k mo e) ∧ xi z J q.2
    rw [x7_turns_57, tt_n, (xk_of h2).2.1.1, if_neg (nI_ge he (by omega)), tt_rd (by omega) (by omega), tt_on (sq_sg hz he), x_cts hz (xk_of h2) he, tt_cI, nI_1]
    cases q : zc0 z e with
    | false =>
      rw [if_pos (zi_0 rfl), if_neg (by decide)]
      exact ⟨(_, _), rfl, rfl, h2⟩
    | true =>
      obtain ⟨S1, f1, f2, f3⟩ := x_weigh (o := nI e) hF hz h2 hk hst
      have hl := za_le (k := k) (o := nI e) hz hb
      rw [if_neg (zi_1 rfl), if_pos rfl, f1, tt_cL]
      unfold x7_turns_112
      by_cases q0 : za_ z k (nI e) = 0
      · rw [if_pos ((l_le (by omega)).mpr q0), if_pos q0, if_pos (hmo (za_z hz he q0)).symm, tt_n, nI_1]
        exact ⟨(_, _), rfl, rfl, f2⟩
      · rw [if_neg (fun p => q0 ((l_le (by omega)).mp p)), if_neg q0, x_gr hF f3.1, tt_cI, tt_n, tt_n, nI_1]
        by_cases q2 : nI (bg (fun c => lN (zw_ z k (nI e) c)) 119) = mo
        · rw [if_pos q2, if_pos q2]
          exact ⟨(_, _), rfl, rfl, f2⟩
        · rw [if_neg q2, if_neg q2]
          exact ⟨(_, _), rfl, rfl, f2⟩
theorem m_t54 {F k : Nat} {mo : Int32} {z : zz} {K T : sm_t} (hF : 1000 < F) (hz : zw z) (hm : mi z K T) (hk : k < 4) (hst : k ≠ 0 → (z_st z k).isSome = true) (hb : zbusy z ≤ 6) : ∃ T1, x8_turns_54 F F (nI k) mo 0 0 T = some (tb z k mo (z_sn z), T1) ∧ mi z K T1 := by
  have hn := hz.2.2.2.2.1
  refine lp0 (fun f (p : Int32 × sm_t) i => x8_turns_54 F f (nI k) mo p.1 i p.2) (z_sn z) (fun i p => p.1 = tb z k mo i ∧ mi z K p.2) (fun r => ∃ T1, r = some (tb z k mo (z_sn z), T1) ∧ mi z K T1) (f := F) (a := (0, T)) (by omega) ⟨rfl, hm⟩ (fun f p hp => ⟨p.2, ?_, hp.2⟩) (fun f e p he hp => Or.inr ?_)
  · change x8_turns_54 F (f + 1) (nI k) mo p.1 (nI (z_sn z)) p.2 = _
    rw [x8_turns_54, tt_n, (mk_of hp.2).2.1.1, if_pos (nI_le (by omega) (by omega)), hp.1]
  · obtain ⟨p1, p2⟩ := p
    obtain ⟨h1, h2⟩ := hp
    change p1 = _ at h1
    change mi z K p2 at h2
    subst h1
    change ∃ q : Int32 × sm_t, x8_turns_54 F (f + 1) (nI k) mo (tb z k mo e) (nI e) p2 = x8_turns_54 F f (nI k) mo q.1 (nI (e + 1)) q.2 ∧ q.1 = (if zc0 z e = true then (if za_ z k (nI e) = 0 then tb z k mo e ||| 0 else if nI (bg (fun c => lN (zw_ z k (nI e) c)) 119) = mo then tb z k mo e ||| 0 else tb z k mo e ||| (1 <<< (nI e &&& 31))) else tb z k mo e) ∧ mi z K q.2
    rw [x8_turns_54, tt_n, (mk_of h2).2.1.1, if_neg (nI_ge he (by omega)), m_cts hz (mk_of h2) h2.2.2.2.2.2.2.2.2.2 he, tt_cI, zct_9 (by omega), nI_1]
    cases q : zc0 z e with
    | false =>
      rw [if_pos (zi_0 rfl), if_neg (by decide)]
      exact ⟨(_, _), rfl, rfl, h2⟩
    | true =>
      obtain ⟨T1, f1, f2, f3, f4⟩ := m_lo (e := e) hF hz h2 hb hk hst
      have hl := za_le (k := k) (o := nI e) hz hb
      rw [if_neg (zi_1 rfl), if_pos rfl, tt_n, f1, tt_cV, tt_n, tt_n, tt_2, f4]
      by_cases q0 : za_ z k (nI e) = 0
      · rw [if_pos ((l_le (by omega)).mpr q0), if_pos q0, tt_n]
        exact ⟨(_, _), rfl, rfl, f2⟩
      · rw [if_neg (fun p => q0 ((l_le (by omega)).mp p)), if_neg q0, show x8_mostOf F (sm_wI T1 52 19 (-9)) = _ from m_gr (T := sm_wI T1 52 19 (-9)) hF f3, tt_cI, tt_n, tt_n]
        by_cases q2 : nI (bg (fun c => lN (zw_ z k (nI e) c)) 119) = mo
        · rw [if_pos q2, if_pos q2]
          exact ⟨(_, _), rfl, rfl, f2⟩
        · rw [if_neg q2, if_neg q2]
          exact ⟨(_, _), rfl, rfl, f2⟩
theorem q_turns {z : zz} {J K S T : sm_t} (hz : zw z) (hx : xi z J S) (hm : mi z K T) {F : Nat} (hF : 1000 < F) (k : Int32) : bt J K (x7_turns F k S) (x8_turns F k T) := by
  unfold x7_turns x8_turns
  rcases tt_below k 4 (by omega) with ⟨k, hk, rfl⟩ | h
  · rw [x_st1 hk, tt_cI, if_neg n10]
    rcases b_bar (F := F) (m := 6) hz hx hm hF hk (by omega) with ⟨v, z1, S1, T1, v0, e1, a1, a2, a3, ⟨b1, b2⟩ | ⟨rfl, b2, rfl, b3, b4⟩⟩ | ⟨hst, hb, e1, e2, e3, e4⟩
    · rw [show x7_barred F (nI k) 6 S = _ from e1, tt_cI, if_neg v0, b2, tt_cI, if_neg b1]
      exact bt_same a1 a2 a3 _
    · rw [show x7_barred F (nI k) 6 S = _ from e1, tt_cI, if_neg v0, b2, tt_cI, if_pos (show (0 : Int32) ≤ 0 by decide), b3, tt_cI, if_neg (show ¬ nI (zbusy z) ≤ 6 from b4)]
      exact bt_same a1 a2 a3 _
    · obtain ⟨S1, f1, f2, f3⟩ := x_weigh (o := -9) hF hz hx hk hst
      obtain ⟨T1, g1, g2, g3⟩ := m_end hF hz hm hb hk hst
      have hz6 := za_le (k := k) (o := -9) hz hb
      rw [show x7_barred F (nI k) 6 S = _ from e1, tt_cI, if_pos p00, f1, tt_cL, e2, tt_cI, if_pos (show (0 : Int32) ≤ 0 by decide), e3, tt_cI, if_pos (show nI (zbusy z) ≤ 6 from e4), g1, tt_cV, tt_n, g3.2.1]
      by_cases q : za_ z k (-9) = 0
      · obtain ⟨S2, c1, c2⟩ := x_t57 (mo := -9) hF hz f2 hk hst hb (fun _ => rfl)
        obtain ⟨T2, d1, d2⟩ := m_t54 (mo := -9) hF hz g2 hk hst hb
        rw [if_pos ((l_le (by omega)).mpr q), if_pos ((l_eq (by omega)).mpr q), c1, d1]
        exact bt_same hz c2 d2 _
      · obtain ⟨S2, c1, c2⟩ := x_t57 (mo := nI (bg (fun c => lN (zw_ z k (-9) c)) 119)) hF hz f2 hk hst hb (fun p => absurd p q)
        obtain ⟨T2, d1, d2⟩ := m_t54 (mo := nI (bg (fun c => lN (zw_ z k (-9) c)) 119)) hF hz g2 hk hst hb
        rw [if_neg (fun p => q ((l_le (by omega)).mp p)), if_neg (fun p => q ((l_eq (by omega)).mp p)), x_gr hF f3.1, m_gr hF g3.1, tt_cI, tt_cI, c1, d1]
        exact bt_same hz c2 d2 _
  · rw [x_st0 h, tt_cI, if_pos p00]
    unfold x8_askedStory
    rw [m_st0 h]
    exact bt_same hz hx hm (-1)
