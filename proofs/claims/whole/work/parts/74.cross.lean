/-! ===== on, cross ===== -/
def zbi (b e : Nat) : Nat := b / 2 ^ e % 2
theorem sh_31 : ∀ e, e < 13 → ((nI e &&& 31).toBitVec.smod 32).toNat = e ∧ (1 : Int32) <<< (nI e &&& 31) = nI (2 ^ e) := by decide +kernel
theorem bi_1 {b e : Nat} (hb : b < 4096) (he : e < 12) : (nI b >>> (nI e &&& 31)) &&& 1 = nI (zbi b e) := by
  rw [pk_shrN (by omega) _ e (sh_31 e (by omega)).1, pk_andN (Nat.lt_of_le_of_lt (Nat.div_le_self _ _) (by omega)) 1 (by decide)]
  rfl
theorem zbi_le {b e : Nat} : zbi b e ≤ 1 := by
  unfold zbi
  omega
def zuu (z : zz) (b i : Nat) : zz := zq_sg z (z_sn z, fun e k => if e < i ∧ k = 4 then zbi b e else z_sg z e k)
theorem zuu_0 {z : zz} {b : Nat} : zuu z b 0 = z := by
  have : (fun e k => if e < 0 ∧ k = 4 then zbi b e else z_sg z e k) = z_sg z := funext fun e => funext fun k => if_neg (by omega)
  unfold zuu
  rw [this]
  rfl
theorem zuu_s {z : zz} {b i : Nat} : z1s (zuu z b i) i 4 (zbi b i) = zuu z b (i + 1) := by
  have : (fun a k => if a = i ∧ k = 4 then zbi b i else if a < i ∧ k = 4 then zbi b a else z_sg z a k) = (fun e k => if e < i + 1 ∧ k = 4 then zbi b e else z_sg z e k) := funext fun e => funext fun k => by
    by_cases q : e = i ∧ k = 4
    · rw [if_pos q, if_pos (by omega), q.1]
    · rw [if_neg q]
      by_cases q1 : e < i ∧ k = 4
      · rw [if_pos q1, if_pos (by omega)]
      · rw [if_neg q1, if_neg (by omega)]
  show zq_sg z (z_sn z, fun a k => if a = i ∧ k = 4 then zbi b i else if a < i ∧ k = 4 then zbi b a else z_sg z a k) = _
  rw [this]
  rfl
theorem zuu_w {z : zz} {b : Nat} (hz : zw z) : ∀ i, zw (zuu z b i) := by
  intro i
  induction i with
  | zero => rw [zuu_0]; exact hz
  | succ i ih => rw [← zuu_s]; exact zw_un ih zbi_le
theorem x_undo {F b : Nat} {z : zz} {J S : sm_t} (hF : 1000 < F) (hz : zw z) (hx : xi z J S) (hb : b < 4096) : ∃ S1, x0_undoBits F (nI b) S = some S1 ∧ xi (zuu z b (z_sn z)) J S1 := by
  have hn := hz.2.2.2.2.1
  unfold x0_undoBits
  refine lp0 (fun f (a : sm_t) i => x0_undoBits_2 F f (nI b) i a) (z_sn z) (fun i a => xi (zuu z b i) J a) (fun o => ∃ S1, o = some S1 ∧ xi (zuu z b (z_sn z)) J S1) (a := S) (by omega) (by rw [zuu_0]; exact hx) (fun f a ha => ⟨a, ?_, ha⟩) (fun f i a hi ha => Or.inr ⟨sm_wI a (24 + i) 4 (nI (zbi b i)), ?_, ?_⟩)
  · change x0_undoBits_2 F (f + 1) (nI b) (nI (z_sn z)) a = _
    rw [x0_undoBits_2, tt_n, show a.1 22 1 = nI (z_sn z) from ha.2.2.2.2.2.2.2.1.1, if_pos (nI_le (by omega) (by omega))]
  · change x0_undoBits_2 F (f + 1) (nI b) (nI i) a = x0_undoBits_2 F f (nI b) (nI (i + 1)) _
    rw [x0_undoBits_2, tt_n, show a.1 22 1 = nI (z_sn z) from ha.2.2.2.2.2.2.2.1.1, if_neg (nI_ge hi (by omega)), tt_rd (by omega) (by omega), bi_1 hb (by omega), tt_on (sq_sg hz hi), tt_on (sq_sg hz hi), tt_n, tt_n, nI_1]
    have := zbi_le (b := b) (e := i)
    rcases (show zbi b i = 0 ∨ zbi b i = 1 by omega) with q | q
    · rw [q, if_neg (by decide)]
      rfl
    · rw [q, if_pos (by decide)]
      rfl
  · rw [← zuu_s]
    exact xi_un (zuu_w hz i) ha hi
theorem m_undo {F r b : Nat} {z : zz} {J S : sm_t} (hF : 1000 < F) (hz : zw z) (hm : mi z J S) (hr : r < 6) (hb : b < 4096) (hw : z_rw z r 15 = nI b) : ∃ S1, x8_on_71 F F (nI r) 0 S = some (1, S1) ∧ mi (zuu z b (z_sn z)) J S1 := by
  have hn := hz.2.2.2.2.1
  refine lp0 (fun f (a : sm_t) i => x8_on_71 F f (nI r) i a) (z_sn z) (fun i a => mi (zuu z b i) J a) (fun o => ∃ S1, o = some (1, S1) ∧ mi (zuu z b (z_sn z)) J S1) (a := S) (by omega) (by rw [zuu_0]; exact hm) (fun f a ha => ⟨a, ?_, ha⟩) (fun f i a hi ha => Or.inr ⟨sm_wI a 63 (5 * i + 4) (nI (zbi b i)), ?_, ?_⟩)
  · change x8_on_71 F (f + 1) (nI r) (nI (z_sn z)) a = _
    rw [x8_on_71, tt_n, show a.1 52 17 = nI (z_sn z) from ha.2.2.2.2.2.2.2.1.1, if_pos (nI_le (by omega) (by omega))]
  · change x8_on_71 F (f + 1) (nI r) (nI i) a = x8_on_71 F f (nI r) (nI (i + 1)) _
    have e : x8_rowAt F (nI r) 15 a = some (nI b, a) := by
      have h1 := m_rowAt (F := F) ha hr (show 15 < 40 by omega)
      change x8_rowAt F (nI r) (nI 15) a = some (z_rw z r 15, a) at h1
      rw [hw] at h1
      exact h1
    rw [x8_on_71, tt_n, show a.1 52 17 = nI (z_sn z) from ha.2.2.2.2.2.2.2.1.1, if_neg (nI_ge hi (by omega)), e, tt_cI, bi_1 hb (by omega), tk_m5, tk_b4, tt_wr (by omega) (by omega), nI_1]
  · rw [← zuu_s]
    exact mi_un ha hi
theorem x_goOn {F r c n : Nat} {z : zz} {J S : sm_t} {co en : Nat → Nat} (hz : zw z) (h : xi z J S) (hr : r < 6) (hn : n ≤ 6) (h0 : z_rw z r 0 = nI c) (h1 : z_rw z r 1 = nI n) (hco : ∀ k, k < n → z_rw z r (2 + k) = nI (co k)) (hen : ∀ k, k ≤ n → z_rw z r (8 + k) = nI (en k)) : ∃ S1, x3_goOn F (5 + r) S = some S1 ∧ xi (zq_fl z (c, n, co, en)) J S1 := by
  have e0 : S.1 (5 + r) 0 = nI c := (h.2.2.1 r 0 hr (by omega)).trans h0
  have e1 : (sm_wI S 19 0 (nI c)).1 (5 + r) 1 = nI n := by
    rw [tt_1 (by omega)]
    exact (h.2.2.1 r 1 hr (by omega)).trans h1
  refine ⟨wf (wf (sm_wI (sm_wI S 19 0 (nI c)) 19 1 (nI n)) 20 (va_cpy (S.1 (5 + r)) (S.1 20) 2 0 n)) 21 (va_cpy (S.1 (5 + r)) (S.1 21) 8 0 (n + 1)), ?_, xc_fl (c, n, co, en) hz h (fun b hb => ?_) rfl ⟨?_, ?_, fun k hk => ?_, fun k hk => ?_⟩⟩
  · unfold x3_goOn
    rw [tt_an (tt_sq_row r hr), tr_0 _ (by omega) (by omega), e0, tt_n, tr_1 _ (by omega) (by omega), e1, tt_n, tt_n, tt_1s, if_pos rfl, show (2 : Int32) = nI 2 from rfl, show (0 : Int32) = nI 0 from rfl, tt_cp (by omega) (by omega) (by omega) (by omega), tt_n, wf_o (by omega), tt_1s, if_pos rfl, nI_1, show (8 : Int32) = nI 8 from rfl, tt_cp (by omega) (by omega) (by omega) (by omega), wf_o (by omega), wf_o (by omega), tt_1 (by omega), tt_1 (by omega), tt_1 (by omega), tt_1 (by omega), tt_1 (by omega), tt_1 (by omega)]
  · rw [wf_o (by omega), wf_o (by omega), tt_1 (by omega), tt_1 (by omega)]
  · rw [wf_o (by omega), wf_o (by omega), tt_1s, if_neg (by omega), tt_1s, if_pos rfl]
  · rw [wf_o (by omega), wf_o (by omega), tt_1s, if_pos rfl]
  · have hk : k < n := hk
    rw [wf_o (by omega), wf_s, pk_cpy_in (by omega) (by omega), show 2 + (k - 0) = 2 + k by omega, h.2.2.1 r _ hr (by omega)]
    exact hco k hk
  · have hk : k ≤ n := hk
    rw [wf_s, pk_cpy_in (by omega) (by omega), show 8 + (k - 0) = 8 + k by omega, h.2.2.1 r _ hr (by omega)]
    exact hen k hk
theorem m_on45 {F r c n : Nat} {z : zz} {J S : sm_t} {co en : Nat → Nat} (hF : 1000 < F) (h : mi z J S) (hr : r < 6) (hn : n ≤ 6) (h0 : z_rw z r 0 = nI c) (h1 : z_rw z r 1 = nI n) (hco : ∀ k, k < 6 → z_rw z r (2 + k) = if k < n then nI (co k) else -9) (hen : ∀ k, k < 7 → z_rw z r (8 + k) = if k ≤ n then nI (en k) else -9) : ∃ S1, x8_on_45 F F (nI r) 0 S = x8_on_71 F F (nI r) 0 S1 ∧ mi (zq_fl z (c, n, co, en)) J S1 := by
  have key : ∃ g, x8_on_45 F F (nI r) 0 S = x8_on_71 F F (nI r) 0 (wf S 59 g) ∧ ∀ k, k < 15 → g k = z_rw z r k := by
    refine lp0 (fun f (a : sm_t) i => x8_on_45 F f (nI r) i a) 15 (fun i a => ∃ g, a = wf S 59 g ∧ ∀ k, k < i → g k = z_rw z r k) (fun o => ∃ g, o = x8_on_71 F F (nI r) 0 (wf S 59 g) ∧ ∀ k, k < 15 → g k = z_rw z r k) (a := S) (by omega) ⟨S.1 59, wf_id.symm, fun k hk => by omega⟩ (fun f a ha => ?_) (fun f i a hi ha => ?_)
    · obtain ⟨g, rfl, hg⟩ := ha
      refine ⟨g, ?_, hg⟩
      change x8_on_45 F (f + 1) (nI r) 15 (wf S 59 g) = _
      rw [x8_on_45, if_pos (by decide)]
    · obtain ⟨g, rfl, hg⟩ := ha
      refine Or.inr ⟨wf S 59 (upd g i (z_rw z r i)), ?_, _, rfl, fun k hk => ?_⟩
      · change x8_on_45 F (f + 1) (nI r) (nI i) (wf S 59 g) = x8_on_45 F f (nI r) (nI (i + 1)) _
        have e : x8_rowAt F (nI r) (nI i) (wf S 59 g) = some (z_rw z r i, wf S 59 g) := by
          unfold x8_rowAt
          rw [tk_m40, nI_add, tt_r _ (show (wf S 59 g).1 55 (40 * r + i) = z_rw z r i by rw [wf_o (by omega)]; exact h.2.2.1 r i hr (by omega)) (by omega) (by omega)]
        rw [x8_on_45, if_neg (show ¬ (15 : Int32) ≤ nI i from nI_ge (b := 15) hi (by omega)), e, tt_cI, tt_wr hi (by omega), wI_f, wf_wf, wf_s, nI_1]
      · by_cases q : k = i
        · rw [q, pk_us]
        · rw [pk_un q, hg k (by omega)]
  obtain ⟨g, e, hg⟩ := key
  refine ⟨_, e, mc_fl (c, n, co, en) h (fun b hb => wf_o hb) rfl ⟨?_, ?_, fun k hk => ?_, fun k hk => ?_⟩⟩
  · rw [wf_s, hg 0 (by omega), h0]
  · rw [wf_s, hg 1 (by omega), h1]
  · rw [wf_s, hg _ (by omega), hco k hk]
  · rw [wf_s, hg _ (by omega), hen k hk]
theorem q_on {z : zz} {J K S T : sm_t} (hz : zw z) (hx : xi z J S) (hm : mi z K T) {F : Nat} (hF : 1000 < F) (r : Int32) : bt J K (x7_on F r S) (x8_on F r T) := by
  have hk := hz.2.2.2.2.1
  unfold x7_on x8_on
  rcases tt_below r 6 (by omega) with ⟨r, hr, rfl⟩ | h
  · have e := hx.2.1 r hr
    have e3 := hm.2.1 r hr
    cases hs : z_rs z r with
    | none =>
      rw [hs] at e
      change S.1 11 r = -1 at e
      rw [tt_e _ (x_row1 hr), if_neg n10, tt_r _ e hr (by omega), if_pos rfl, tt_e _ (m_ask1 hm hr hs), if_neg (by decide), x_f1]
      exact bt_fd hz hx hm (by omega)
    | some s =>
      have hn := hz.1 r s hs
      rw [hs] at e e3
      change S.1 11 r = nI s at e
      change T.1 54 r = nI s at e3
      rw [tt_e _ (x_row1 hr), if_neg n10, tt_r _ e hr (by omega), if_neg (by rw [tt_eq, tt_nI (by omega), tt_neg1]; omega), tt_r _ e hr (by omega), tt_e _ (m_ask2 hz hm hr hs), if_pos (show (0 : Int32) ≤ 0 by decide), tt_r _ e3 hr (by omega)]
      by_cases q : s = 16
      · rw [if_pos (show nI s = 16 by rw [q]; rfl), if_pos (show nI s = 16 by rw [q]; rfl), tt_rd hr (by omega)]
        have hrow : ∀ k, k < 40 → S.1 (5 + r) k = z_rw z r k := fun k hk => hx.2.2.1 r k hr hk
        have r0 : x8_rowAt F (nI r) 0 T = some (z_rw z r 0, T) := m_rowAt hm hr (k := 0) (by omega)
        have r1 : x8_rowAt F (nI r) 1 T = some (z_rw z r 1, T) := m_rowAt hm hr (k := 1) (by omega)
        have r15 : x8_rowAt F (nI r) 15 T = some (z_rw z r 15, T) := m_rowAt hm hr (k := 15) (by omega)
        have sh := (sh_31 (z_sn z) (by omega)).2
        have p2 : 2 ^ z_sn z ≤ 2 ^ 12 := Nat.pow_le_pow_right (by omega) hk
        have bad : ∀ (a : Option (Int32 × sm_t)), a = some (0, T) → bt J K (some (-3, xfd S 3)) (sm_cI a fun v3 S => if v3 = 0 then sm_cI (x8_meets F 3 S) fun v4 S => some (v4, S) else x8_on_45 F F (nI r) 0 S) := by
          intro a ha
          rw [ha, tt_cI, if_pos p00, m_f3, tt_cI]
          exact bt_fd hz hx hm (by omega)
        unfold x3_couldTell x8_isImage
        rw [tt_an (tt_sq_row r hr), tr_0 _ (by omega) (by omega), hrow 0 (by omega), r1, tt_cI, r0, tt_cI]
        rcases tt_below (z_rw z r 0) 120 (by omega) with ⟨c, hc, h0⟩ | h0
        · rw [h0, x_cell1 hc, m_cell1 hc, tt_cI, tt_cI, if_neg n10, if_neg n10, tr_1 _ (by omega) (by omega), hrow 1 (by omega)]
          rcases tt_below (z_rw z r 1) 7 (by omega) with ⟨n, hn, h1⟩ | h1
          · rw [h1, show x7_isWithin F (nI n) 6 S = some (1, S) from x_wi1 (b := 6) (by omega) (by omega), show x8_in F (nI n) 0 6 T = some (1, T) from m_in1 (b := 6) (by omega) (by omega), tt_cI, tt_cI, if_neg n10, if_neg n10, tr_1 _ (by omega) (by omega), hrow 1 (by omega), h1, x_ct28 hF hr hn hrow, x_ct73 hF hr hn hrow, r15, tt_cI, tt_n, hm.2.2.2.2.2.2.2.1.1, sh]
            rcases tt_below (z_rw z r 15) (2 ^ z_sn z) (by omega) with ⟨b, hb, h15⟩ | h15
            · have g1 : x8_in F (nI b) 0 (nI (2 ^ z_sn z) - 1) T = some (1, T) := by
                rw [m_in, if_neg (nI_pos (by omega)), if_neg]
                rw [tt_lt, show (nI (2 ^ z_sn z) - 1).toInt = ((2 ^ z_sn z : Nat) : Int) - 1 from pk_sub_toInt (b := 1) (by omega) (by omega), tt_nI (by omega)]
                omega
              rw [h15, g1, tt_cI, if_neg n10, m_ct28 hF hr hn hm, m_ct73 hF hr hn hm]
              by_cases qC : zall (pC n (z_rw z r)) 6 = true
              · rw [if_pos qC, if_pos qC, tt_cI, tt_cI]
                by_cases qD : (zall (pD n (z_rw z r)) 7 && decide (0 < zs (pE n (z_rw z r)) 7)) = true
                · rw [qD, if_neg (zi_1 rfl), if_neg (zi_1 rfl), tt_an (tt_sq_row r hr), show ∀ K : Int32 → Option (Int32 × sm_t), sm_rd (S.1 (5 + r)) 40 15 K = K (nI b) from fun K => by rw [tr_15 _ (by omega) (by omega), hrow 15 (by omega), h15], if_neg (nI_pos (by omega)), show ∀ K : Int32 → Option (Int32 × sm_t), sm_rd (S.1 (5 + r)) 40 15 K = K (nI b) from fun K => by rw [tr_15 _ (by omega) (by omega), hrow 15 (by omega), h15], tt_n, hx.2.2.2.2.2.2.2.1.1, sh, if_pos (nI_lt hb (by omega))]
                  have tC := zall_t 6 qC
                  have tD := zall_t 7 (by
                    cases q : zall (pD n (z_rw z r)) 7 with
                    | true => rfl
                    | false => rw [q] at qD; cases qD)
                  have hco : ∀ k, k < 6 → z_rw z r (2 + k) = if k < n then nI (z_rw z r (2 + k)).toNatClampNeg else -9 := by
                    intro k hk
                    have h1 := tC k hk
                    unfold pC at h1
                    by_cases q : k < n
                    · rw [if_pos q] at h1
                      have h2 := of_decide_eq_true h1
                      rw [if_pos q]
                      rcases tt_side (z_rw z r (2 + k)) with h3 | h3
                      · exact (zn_1 h3 (by omega)).1.symm
                      · omega
                    · rw [if_neg q] at h1
                      rw [if_neg q]
                      exact of_decide_eq_true h1
                  have hco8 : ∀ k, k < n → (z_rw z r (2 + k)).toNatClampNeg < 8 := by
                    intro k hk
                    have h1 := tC k (by omega)
                    unfold pC at h1
                    rw [if_pos hk] at h1
                    have h2 := of_decide_eq_true h1
                    rcases tt_side (z_rw z r (2 + k)) with h3 | h3
                    · exact (zn_1 h3 (by omega)).2
                    · omega
                  have hen : ∀ k, k < 7 → z_rw z r (8 + k) = if k ≤ n then nI (z_rw z r (8 + k)).toNatClampNeg else -9 := by
                    intro k hk
                    have h1 := tD k hk
                    unfold pD at h1
                    by_cases q : k ≤ n
                    · rw [if_pos q] at h1
                      have h2 := of_decide_eq_true h1
                      rw [if_pos q]
                      rcases tt_below (z_rw z r (8 + k)) 10 (by omega) with h3 | h3
                      · exact (zn_1 h3 (by omega)).1.symm
                      · omega
                    · rw [if_neg q] at h1
                      rw [if_neg q]
                      exact of_decide_eq_true h1
                  have hen8 : ∀ k, k ≤ n → (z_rw z r (8 + k)).toNatClampNeg ≤ 9 := by
                    intro k hk
                    have h1 := tD k (by omega)
                    unfold pD at h1
                    rw [if_pos hk] at h1
                    have h2 := of_decide_eq_true h1
                    rcases tt_below (z_rw z r (8 + k)) 10 (by omega) with h3 | h3
                    · have := (zn_1 h3 (by omega)).2
                      omega
                    · omega
                  obtain ⟨S1, f1, j1⟩ := x_goOn (F := F) (c := c) (co := fun k => (z_rw z r (2 + k)).toNatClampNeg) (en := fun k => (z_rw z r (8 + k)).toNatClampNeg) hz hx hr (show n ≤ 6 by omega) h0 h1 (fun k hk => (hco k (by omega)).trans (if_pos hk)) (fun k hk => (hen k (by omega)).trans (if_pos hk))
                  obtain ⟨T1, f2, j2⟩ := m_on45 (F := F) (c := c) (co := fun k => (z_rw z r (2 + k)).toNatClampNeg) (en := fun k => (z_rw z r (8 + k)).toNatClampNeg) hF hm hr (show n ≤ 6 by omega) h0 h1 hco hen
                  have hz1 := zw_fl (co := fun k => (z_rw z r (2 + k)).toNatClampNeg) (en := fun k => (z_rw z r (8 + k)).toNatClampNeg) hz ⟨hc, show n ≤ 6 by omega, hco8, hen8⟩
                  obtain ⟨S2, f3, j3⟩ := x_undo (b := b) hF hz1 j1 (by omega)
                  obtain ⟨T2, f4, j4⟩ := m_undo (b := b) hF hz1 j2 hr (by omega) h15
                  rw [f1, tt_cV, f2, f4, show ∀ K : Int32 → Option (Int32 × sm_t), sm_rd (S1.1 (5 + r)) 40 15 K = K (nI b) from fun K => by rw [tr_15 _ (by omega) (by omega), j1.2.2.1 r 15 hr (by omega)]; exact congrArg K h15, f3, tt_cV]
                  exact ⟨_, _, _, _, rfl, rfl, zuu_w hz1 _, j3, j4⟩
                · rw [Bool.eq_false_iff.mpr qD, if_pos (zi_0 rfl), if_pos (zi_0 rfl), x_f3, m_f3]
                  exact bt_fd hz hx hm (by omega)
              · rw [if_neg qC, if_neg qC, tt_cI, if_pos p00, x_f3, tt_cI]
                exact bad _ rfl
            · have g1 : x8_in F (z_rw z r 15) 0 (nI (2 ^ z_sn z) - 1) T = some (0, T) := by
                rw [m_in]
                by_cases q : (z_rw z r 15).toInt < 0
                · rw [if_pos (by rw [tt_lt]; exact q)]
                · rw [if_neg (by rw [tt_lt]; exact q), if_pos]
                  rw [tt_lt, show (nI (2 ^ z_sn z) - 1).toInt = ((2 ^ z_sn z : Nat) : Int) - 1 from pk_sub_toInt (b := 1) (by omega) (by omega)]
                  omega
              rw [g1, tt_cI, if_pos p00, m_im63 F (by omega) (by omega), tt_cI, if_pos p00, m_f3, tt_cI]
              have b := bt_fd hz hx hm (f := 3) (by omega)
              by_cases qC : zall (pC n (z_rw z r)) 6 = true
              · rw [if_pos qC, tt_cI]
                by_cases qD : (zall (pD n (z_rw z r)) 7 && decide (0 < zs (pE n (z_rw z r)) 7)) = true
                · rw [qD, if_neg (zi_1 rfl), tt_an (tt_sq_row r hr), show ∀ K : Int32 → Option (Int32 × sm_t), sm_rd (S.1 (5 + r)) 40 15 K = K (z_rw z r 15) from fun K => by rw [tr_15 _ (by omega) (by omega), hrow 15 (by omega)]]
                  by_cases q : z_rw z r 15 < 0
                  · rw [if_pos q, x_f3]
                    exact b
                  · rw [if_neg q, show ∀ K : Int32 → Option (Int32 × sm_t), sm_rd (S.1 (5 + r)) 40 15 K = K (z_rw z r 15) from fun K => by rw [tr_15 _ (by omega) (by omega), hrow 15 (by omega)], tt_n, hx.2.2.2.2.2.2.2.1.1, sh, if_neg, x_f3]
                    · exact b
                    · rw [tt_lt] at q ⊢
                      rw [tt_nI (by omega)]
                      simp only [Int32.reduceToInt] at q
                      omega
                · rw [Bool.eq_false_iff.mpr qD, if_pos (zi_0 rfl), x_f3]
                  exact b
              · rw [if_neg qC, tt_cI, if_pos p00, x_f3]
                exact b
          · rw [show x7_isWithin F (z_rw z r 1) 6 S = some (0, S) from x_wiN (b := 6) (by omega) (by omega), show x8_in F (z_rw z r 1) 0 6 T = some (0, T) from m_inN (b := 6) (by omega) (by omega), tt_cI, tt_cI, if_pos p00, if_pos p00, tt_cI, if_pos p00, x_f3, tt_cI]
            exact bad _ (m_im63 F (by omega) (by omega))
        · rw [x_cell0 h0, m_cell0 h0, tt_cI, tt_cI, if_pos p00, if_pos p00, tt_cI, if_pos p00, x_f3, tt_cI]
          exact bad _ (m_im63 F (by omega) (by omega))
      · have q1 : ¬ nI s = 16 := fun p => q ((nI_eq (b := 16) (by omega) (by omega)).mp p)
        rw [if_neg q1, if_neg q1, x_f5, m_f5]
        exact bt_fd hz hx hm (by omega)
  · rw [x_row0 h, m_ask0 h]
    exact bt_same hz hx hm (-1)
