/-! ===== fault, story ===== -/
theorem ip_v {w : Nat → Int32} {n p q kd c m v : Nat} (h : ip w n p = (q, some (kd, c, m, v))) : v ≤ 99 := by
  have hw : ∀ kd' c' m' q', ipw w n kd' c' m' q' = (q, some (kd, c, m, v)) → v ≤ 99 := by
    intro kd' c' m' q' h
    unfold ipw at h
    split at h
    · split at h
      · have nv := nm_v (w := w) (n := n) 2 (q' + 1) 0
        have : (nm w n 2 (q' + 1) 0).2 = v := by
          have := congrArg (fun x => x.2) h
          simp only [Option.some.injEq, Prod.mk.injEq] at this
          exact this.2.2.2
        omega
      · cases congrArg (fun x => x.2) h
    · cases congrArg (fun x => x.2) h
  have hc : ∀ kd' mx p', ipc w n kd' mx p' = (q, some (kd, c, m, v)) → v ≤ 99 := by
    intro kd' mx p' h
    unfold ipc at h
    split at h
    · split at h
      · unfold ipm at h
        split at h
        · split at h
          · exact hw _ _ _ _ h
          · cases congrArg (fun x => x.2) h
        · cases congrArg (fun x => x.2) h
      · cases congrArg (fun x => x.2) h
    · cases congrArg (fun x => x.2) h
  unfold ip at h
  split at h
  · exact hw _ _ _ _ h
  · split at h
    · exact hc _ _ _ h
    · split at h
      · exact hc _ _ _ h
      · cases congrArg (fun x => x.2) h
def gok (g : Nat → Int32) : Prop := ∀ d, ∃ v, v ≤ 99 ∧ g d = nI v
theorem ln_k {s v : Nat} (hv : v ≤ 99) : ∀ k o g, gok g → gok (ln s (nI v) k o g) := by
  intro k
  induction k with
  | zero => exact fun o g h => h
  | succ k ih =>
    intro o g h
    cases o with
    | none => exact h
    | some c =>
      refine ih _ _ (fun d => ?_)
      by_cases q : d = c
      · rw [q, pk_us]
        exact ⟨v, hv, rfl⟩
      · rw [pk_un q]
        exact h d
theorem lay_k {kd c m v : Nat} {g : Nat → Int32} (hv : v ≤ 99) (h : gok g) : gok (lay kd c m v g) := by
  unfold lay
  split
  · exact fun d => ⟨v, hv, rfl⟩
  · split
    · intro d
      show ∃ u, u ≤ 99 ∧ (if zfar c d ≤ m then nI v else g d) = nI u
      split
      · exact ⟨v, hv, rfl⟩
      · exact h d
    · exact ln_k hv _ _ _ h
theorem rn_k {w : Nat → Int32} {n : Nat} : ∀ k p it g, gok g → gok (rn w n k p it g).2.2 := by
  intro k
  induction k with
  | zero => exact fun p it g h => h
  | succ k ih =>
    intro p it g h
    show gok (if n ≤ p then (-9, it, g) else if w p = 32 then rn w n k (p + 1) it g else match ip w n p with
      | (q, none) => (nI q, it, g)
      | (q, some (kd, c, m, v)) => rn w n k q (it + 1) (lay kd c m v g)).2.2
    split
    · exact h
    · split
      · exact ih _ _ _ h
      · cases e : ip w n p with
        | mk q o =>
          cases o with
          | none => exact h
          | some r =>
            obtain ⟨kd, c, m, v⟩ := r
            exact ih _ _ _ (lay_k (ip_v e) h)
def rr (z : zz) (t n : Nat) : Int32 × Nat × (Nat → Int32) := rn (z_tw z t) n n 0 0 (fun _ => 0)
theorem x_read {F t n : Nat} {z : zz} {J S : sm_t} (hF : 1000 < F ∧ F < 2147483648) (hz : zw z) (hx : xi z J S) (ht : t < 4) (hn : n ≤ 80) : ∃ S1, x4_read F (13 + t) (nI n) S = some ((rr z t n).1, S1) ∧ xi z J S1 ∧ ((rr z t n).1 = -9 → S1.1 46 5 = nI (rr z t n).2.1 ∧ ∀ d, d < 120 → S1.1 47 d = (rr z t n).2.2 d) := by
  unfold x4_read
  rw [tt_n, tt_n, tt_n, tt_n, tt_n]
  generalize hS0 : ((S.1, S.2.1, S.2.2.1, S.2.2.2.1, some (13 + t)) : sm_t) = S0
  have a1 : S0.1 = S.1 := by rw [← hS0]
  have a2 : S0.2.1 = S.2.1 := by rw [← hS0]
  have a3 : S0.2.2.1 = S.2.2.1 ∧ S0.2.2.2.1 = S.2.2.2.1 ∧ S0.2.2.2.2 = some (13 + t) := by rw [← hS0]; exact ⟨rfl, rfl, rfl⟩
  obtain ⟨g, e, hg⟩ := x_fill (F := F) (v := 0) (S := sm_wI (sm_wI (sm_wI (sm_wI S0 46 1 (nI n)) 46 2 0) 46 3 (-9)) 46 5 0) (show sm_sq 47 = some (.inl (.int, 120)) by decide) (by omega) hF.2
  have e1 : wf (sm_wI (sm_wI (sm_wI (sm_wI S0 46 1 (nI n)) 46 2 0) 46 3 (-9)) 46 5 0) 47 g = xR S0 n 0 (-9) 0 g := by
    unfold xR
    rw [wI_f, wI_f, wI_f, wI_f, wf_wf, wf_wf, wf_wf, wf_s, wf_s, wf_s]
    have : upd (upd (upd (upd (S0.1 46) 1 (nI n)) 2 0) 3 (-9)) 5 0 = q5 (S0.1 46) (nI n) (nI 0) (-9) (nI 0) := by
      funext k
      unfold q5
      by_cases k5 : k = 5
      · rw [k5, pk_us]
        rfl
      · rw [pk_un k5, if_neg k5]
        by_cases k3 : k = 3
        · rw [k3, pk_us]
          rfl
        · rw [pk_un k3, if_neg k3]
          by_cases k2 : k = 2
          · rw [k2, pk_us]
            rfl
          · rw [pk_un k2, if_neg k2]
            by_cases k1 : k = 1
            · rw [k1, pk_us]
              rfl
            · rw [pk_un k1, if_neg k1]
    rw [this]
  have hr : rx S0 t n (z_tw z t) := ⟨ht, hn, a3.2.2, fun k hk => by rw [a1]; exact hx.2.2.2.2.1 t k ht (by omega)⟩
  obtain ⟨p1, it1, g1, e2, h2⟩ := x_run hF hr n 0 0 0 F F g (fun _ => 0) (by omega) (by omega) (by omega) (by omega) (by omega) (fun d hd => by rw [hg d, if_pos hd])
  refine ⟨xR S0 n p1 (rr z t n).1 it1 g1, ?_, xc_sc hz hx (fun b hb => ?_) (fun b hb => ?_) ?_, fun q => ?_⟩
  · rw [e, tt_cV, e1]
    exact e2
  · rw [xR_o (by omega) (by omega), a1]
  · show S0.2.1 b = S.2.1 b
    rw [a2]
  · show (S0.2.2.1 = 42 ∧ S0.2.2.2.1 = 43) ∨ (S0.2.2.1 = 43 ∧ S0.2.2.2.1 = 42)
    rw [a3.1, a3.2.1]
    exact hx.2.2.2.2.2.2.2.2.2
  · have h3 := h2 q
    rw [r_5, xR_46, h3.1]
    exact ⟨rfl, h3.2⟩
theorem m_goesOn {F t n : Nat} {z : zz} {K T : sm_t} (hF : 1000 < F) (hm : mi z K T) (ht : t < 4) (hn : n ≤ 80) (hs : z_ts z t = some n) : ∃ T1, x8_goesOn F (nI t) T = some ((rr z t n).1, T1) ∧ mi z K T1 ∧ ((rr z t n).1 = -9 → T1.1 52 16 = nI (rr z t n).2.1 ∧ ∀ d, d < 120 → T1.1 62 d = (rr z t n).2.2 d) := by
  have e56 := hm.2.2.2.1 t ht
  rw [hs] at e56
  have hr : rm T t n (z_tw z t) := ⟨ht, hn, e56, fun k hk => hm.2.2.2.2.1 t k ht (by omega)⟩
  have e1 : sm_wI (sm_wI T 52 14 0) 52 16 0 = mR T 0 (T.1 52 15) 0 (T.1 62) := by
    unfold mR
    rw [wI_f, wI_f, wf_wf, wf_s]
    have : upd (upd (T.1 52) 14 0) 16 0 = q6 (T.1 52) (nI 0) (T.1 52 15) (nI 0) := by
      funext k
      unfold q6
      by_cases k6 : k = 16
      · rw [k6, pk_us]
        rfl
      · rw [pk_un k6, if_neg k6]
        by_cases k4 : k = 14
        · rw [k4, pk_us]
          rfl
        · rw [pk_un k4, if_neg k4]
          by_cases k5 : k = 15
          · rw [if_pos k5, k5]
          · rw [if_neg k5]
    rw [this]
    have : wf (wf T 52 (q6 (T.1 52) (nI 0) (T.1 52 15) (nI 0))) 62 ((wf T 52 (q6 (T.1 52) (nI 0) (T.1 52 15) (nI 0))).1 62) = wf (wf T 52 (q6 (T.1 52) (nI 0) (T.1 52 15) (nI 0))) 62 (T.1 62) := by rw [wf_o (by omega)]
    rw [← this, wf_id]
  have e2 : ∃ g, x8_goesOn_12 F F (nI t) 0 (mR T 0 (T.1 52 15) 0 (T.1 62)) = x8_goesOn_31 F F (nI t) (mR T 0 (T.1 52 15) 0 g) ∧ ∀ d, d < 120 → g d = 0 := by
    refine lp0 (fun f (a : sm_t) i => x8_goesOn_12 F f (nI t) i a) 120 (fun i a => ∃ g, a = mR T 0 (T.1 52 15) 0 g ∧ ∀ d, d < i → g d = 0) (fun o => ∃ g, o = x8_goesOn_31 F F (nI t) (mR T 0 (T.1 52 15) 0 g) ∧ ∀ d, d < 120 → g d = 0) (f := F) (a := mR T 0 (T.1 52 15) 0 (T.1 62)) (by omega) ⟨_, rfl, fun d hd => by omega⟩ (fun f a ha => ?_) (fun f i a hi ha => ?_)
    · obtain ⟨g, rfl, hg⟩ := ha
      refine ⟨g, ?_, hg⟩
      change x8_goesOn_12 F (f + 1) (nI t) 120 _ = _
      rw [x8_goesOn_12, if_pos (by decide)]
    · obtain ⟨g, rfl, hg⟩ := ha
      refine Or.inr ⟨mR T 0 (T.1 52 15) 0 (upd g i 0), ?_, _, rfl, fun d hd => ?_⟩
      · change x8_goesOn_12 F (f + 1) (nI t) (nI i) _ = x8_goesOn_12 F f (nI t) (nI (i + 1)) _
        rw [x8_goesOn_12, if_neg (show ¬ (120 : Int32) ≤ nI i from nI_ge (b := 120) hi (by omega)), tt_wr hi (by omega), wI_f, mR_61, u_61, nI_1]
      · by_cases q : d = i
        · rw [q, pk_us]
        · rw [pk_un q]
          exact hg d (by omega)
  obtain ⟨g, e3, hg⟩ := e2
  obtain ⟨p1, nu1, it1, g1, e4, h4⟩ := m_run hF hr n 0 0 F (T.1 52 15) g (fun _ => 0) (by omega) (by omega) (by omega) hg
  refine ⟨mR T p1 nu1 it1 g1, ?_, mc_sc hm (fun b hb => mR_o (by omega) (by omega)) ⟨?_, ?_, ?_, ?_⟩ (fun b hb => rfl) ⟨rfl, rfl⟩ rfl, fun q => ?_⟩
  · unfold x8_goesOn
    rw [tt_n, tt_n, e1, e3]
    exact e4
  · rw [mR_51]
    rfl
  · rw [mR_51]
    rfl
  · rw [mR_51]
    rfl
  · rw [mR_51]
    rfl
  · have h3 := h4 q
    rw [s_16, mR_61, h3.1]
    exact ⟨rfl, h3.2⟩
theorem q_fault {z : zz} {J K S T : sm_t} (hz : zw z) (hx : xi z J S) (hm : mi z K T) {F : Nat} (hF : 1000 < F ∧ F < 2147483648) (t : Int32) : bt J K (x7_fault F t S) (x8_fault F t T) := by
  unfold x7_fault x8_fault
  rcases tt_below t 4 (by omega) with ⟨t, ht, rfl⟩ | h
  · have e := hx.2.2.2.1 t ht
    cases hs : z_ts z t with
    | none =>
      rw [hs] at e
      change S.1 17 t = -1 at e
      rw [x_text1 ht, tt_cI, if_neg n10, tt_r _ e ht (by omega), if_pos rfl, m_askt1 hm ht hs, tt_cI, if_neg (by decide), x_f1]
      exact bt_fd hz hx hm (by omega)
    | some n =>
      have hn := hz.2.1 t n hs
      rw [hs] at e
      change S.1 17 t = nI n at e
      obtain ⟨S1, e1, i1, -⟩ := x_read (n := n) hF hz hx ht hn
      obtain ⟨T1, e2, i2, -⟩ := m_goesOn hF.1 hm ht hn hs
      rw [x_text1 ht, tt_cI, if_neg n10, tt_r _ e ht (by omega), if_neg (by rw [tt_eq, tt_nI (by omega), tt_neg1]; omega), tt_rd ht (by omega), tt_r _ e ht (by omega), e1, m_askt2 hz hm ht hs, tt_cI, tt_cI, if_pos (show (0 : Int32) ≤ 0 by decide), e2, tt_cI]
      exact bt_same hz i1 i2 _
  · rw [x_text0 h, m_askt0 h]
    exact bt_same hz hx hm (-1)
theorem zw_st {z : zz} {v : Nat → Option (Nat → Nat)} (hz : zw z) (h : ∀ k w, v k = some w → ∀ c, c < 120 → w c ≤ 99) : zw (zq_st z v) := ⟨hz.1, hz.2.1, hz.2.2.1, h, hz.2.2.2.2⟩
theorem q_story {z : zz} {J K S T : sm_t} (hz : zw z) (hx : xi z J S) (hm : mi z K T) {F : Nat} (hF : 1000 < F ∧ F < 2147483648) (k t : Int32) : bt J K (x7_story F k t S) (x8_story F k t T) := by
  unfold x7_story x8_story
  rcases tt_from k 1 3 (by omega) with ⟨k, h1, h2, rfl⟩ | h
  · rw [show x8_in F (nI k) 1 3 T = some (1, T) from m_inAB (a := 1) (b := 3) h1 h2 (by omega), tt_cI, if_neg n10, if_neg (show ¬ nI k < 1 from nI_nlt (b := 1) h1 (by omega)), if_neg (show ¬ (3 : Int32) < nI k from nI_nlt (a := 3) h2 (by omega))]
    rcases tt_below t 4 (by omega) with ⟨t, ht, rfl⟩ | h
    · have e := hx.2.2.2.1 t ht
      cases hs : z_ts z t with
      | none =>
        rw [hs] at e
        change S.1 17 t = -1 at e
        rw [x_text1 ht, tt_cI, if_neg n10, tt_r _ e ht (by omega), if_pos rfl, m_askt1 hm ht hs, tt_cI, if_neg (by decide), x_f1]
        exact bt_fd hz hx hm (by omega)
      | some n =>
        have hn := hz.2.1 t n hs
        rw [hs] at e
        change S.1 17 t = nI n at e
        obtain ⟨S1, e1, i1, j1⟩ := x_read (n := n) hF hz hx ht hn
        obtain ⟨T1, e2, i2, j2⟩ := m_goesOn hF.1 hm ht hn hs
        rw [x_text1 ht, tt_cI, if_neg n10, tt_r _ e ht (by omega), if_neg (by rw [tt_eq, tt_nI (by omega), tt_neg1]; omega), tt_rd ht (by omega), tt_r _ e ht (by omega), e1, m_askt2 hz hm ht hs, tt_cI, tt_cI, if_pos (show (0 : Int32) ≤ 0 by decide), e2, tt_cI]
        by_cases q : (rr z t n).1 = -9
        · rw [if_pos q, if_pos q]
          obtain ⟨k, rfl⟩ : ∃ m, k = m + 1 := ⟨k - 1, by omega⟩
          have hk : k < 3 := by omega
          have a1 := j1 q
          have a2 := j2 q
          have gk : gok (rr z t n).2.2 := rn_k _ _ _ _ (fun d => ⟨0, by omega, rfl⟩)
          have gw : ∀ d, (rr z t n).2.2 d = nI ((rr z t n).2.2 d).toNatClampNeg ∧ ((rr z t n).2.2 d).toNatClampNeg ≤ 99 := fun d => by
            obtain ⟨v, hv, e⟩ := gk d
            rw [e, nI_clamp (by omega)]
            exact ⟨rfl, hv⟩
          have m46 : ∃ g, x8_story_46 F F (nI (k + 1)) 0 (sm_wI T1 60 (k + 1) 1) = some (nI (rr z t n).2.1, wf (sm_wI T1 60 (k + 1) 1) 61 g) ∧ (∀ d, d < 120 → g (120 * (k + 1) + d) = (rr z t n).2.2 d) ∧ ∀ j, ¬ (120 * (k + 1) ≤ j ∧ j < 120 * (k + 1) + 120) → g j = T1.1 61 j := by
            refine lp0 (fun f (a : sm_t) i => x8_story_46 F f (nI (k + 1)) i a) 120 (fun i a => ∃ g, a = wf (sm_wI T1 60 (k + 1) 1) 61 g ∧ (∀ d, d < i → g (120 * (k + 1) + d) = (rr z t n).2.2 d) ∧ ∀ j, ¬ (120 * (k + 1) ≤ j ∧ j < 120 * (k + 1) + 120) → g j = T1.1 61 j) (fun o => ∃ g, o = some (nI (rr z t n).2.1, wf (sm_wI T1 60 (k + 1) 1) 61 g) ∧ (∀ d, d < 120 → g (120 * (k + 1) + d) = (rr z t n).2.2 d) ∧ ∀ j, ¬ (120 * (k + 1) ≤ j ∧ j < 120 * (k + 1) + 120) → g j = T1.1 61 j) (f := F) (a := sm_wI T1 60 (k + 1) 1) (by omega) ⟨T1.1 61, ?_, fun d hd => by omega, fun j hj => rfl⟩ (fun f a ha => ?_) (fun f i a hi ha => ?_)
            · have : (sm_wI T1 60 (k + 1) 1).1 61 = T1.1 61 := tt_1 (by omega)
              rw [← this, wf_id]
            · obtain ⟨g, rfl, hg, hg2⟩ := ha
              refine ⟨g, ?_, hg, hg2⟩
              change x8_story_46 F (f + 1) (nI (k + 1)) 120 _ = _
              rw [x8_story_46, if_pos (by decide), tt_n, wf_o (by omega), tt_1 (by omega), a2.1]
            · obtain ⟨g, rfl, hg, hg2⟩ := ha
              refine Or.inr ⟨wf (sm_wI T1 60 (k + 1) 1) 61 (upd g (120 * (k + 1) + i) ((rr z t n).2.2 i)), ?_, _, rfl, fun d hd => ?_, fun j hj => ?_⟩
              · change x8_story_46 F (f + 1) (nI (k + 1)) (nI i) _ = x8_story_46 F f (nI (k + 1)) (nI (i + 1)) _
                rw [x8_story_46, if_neg (show ¬ (120 : Int32) ≤ nI i from nI_ge (b := 120) hi (by omega)), tt_r _ (show (wf (sm_wI T1 60 (k + 1) 1) 61 g).1 62 i = (rr z t n).2.2 i by rw [wf_o (by omega), tt_1 (by omega)]; exact a2.2 i hi) hi (by omega), tk_m120, nI_add, tt_wr (by omega) (by omega), wI_f, wf_wf, wf_s, nI_1]
              · by_cases q : d = i
                · rw [q, pk_us]
                · rw [pk_un (by omega)]
                  exact hg d (by omega)
              · rw [pk_un (by omega)]
                exact hg2 j hj
          obtain ⟨g, b1, b2, b3⟩ := m46
          rw [nI_pred, tt_rd hk (by omega), tt_an (tt_sq_story k hk), show (0 : Int32) = nI 0 from rfl, show (120 : Int32) = nI 120 from rfl, tt_cp (by omega) (by omega) (by omega) (by omega), tt_wr hk (by omega), tt_n, tt_wr (by omega) (by omega), show vp_nar .boolean 1 = 1 from by decide, show x8_story_46 F F (nI (k + 1)) (nI 0) (sm_wI T1 60 (k + 1) 1) = _ from b1, tt_1 (by omega), wf_o (by omega), a1.1]
          refine ⟨_, zq_st z (fun i => if i = k + 1 then some (fun c => ((rr z t n).2.2 c).toNatClampNeg) else z_st z i), _, _, rfl, rfl, zw_st hz (fun j w hw c hc => ?_), xc_st _ hz i1 (fun b hb => ?_) rfl (fun j hj => ?_), mc_st _ i2 (fun b hb => ?_) rfl ⟨?_, fun j hj => ?_⟩⟩
          · change (if j = k + 1 then some (fun c => ((rr z t n).2.2 c).toNatClampNeg) else z_st z j) = some w at hw
            split at hw
            · cases hw
              exact (gw c).2
            · exact hz.2.2.2.1 j w hw c hc
          · rw [tt_1 (by omega), wf_o (by omega)]
          · have i6 := i1.2.2.2.2.2.2.1 j hj
            by_cases p : j = k
            · subst p
              rw [if_pos rfl]
              refine ⟨by rw [tt_1s, if_pos rfl]; rfl, fun w hw c hc => ?_⟩
              cases hw
              rw [tt_1 (by omega), wf_s, pk_cpy_in (by omega) (by omega), show 0 + (c - 0) = c by omega, a1.2 c hc]
              exact (gw c).1
            · rw [if_neg (by omega)]
              refine ⟨by rw [tt_1s, if_neg p, wf_o (by omega)]; exact i6.1, fun w hw c hc => ?_⟩
              rw [tt_1 (by omega), wf_o (by omega)]
              exact i6.2 w hw c hc
          · rw [wf_o (by omega), tt_1 (by omega)]
          · rw [wf_o (by omega), tt_1s, if_neg (by omega)]
            exact i2.2.2.2.2.2.2.1.1
          · have i6 := i2.2.2.2.2.2.2.1.2 j hj
            by_cases p : j = k
            · subst p
              rw [if_pos rfl]
              refine ⟨by rw [wf_o (by omega), tt_1s, if_pos rfl]; rfl, fun w hw c hc => ?_⟩
              cases hw
              rw [wf_s, b2 c hc]
              exact (gw c).1
            · rw [if_neg (by omega)]
              refine ⟨by rw [wf_o (by omega), tt_1s, if_neg (by omega)]; exact i6.1, fun w hw c hc => ?_⟩
              rw [wf_s, b3 _ (by omega)]
              exact i6.2 w hw c hc
        · rw [if_neg q, if_neg q]
          exact bt_same hz i1 i2 (-4)
    · rw [x_text0 h, m_askt0 h]
      exact bt_same hz hx hm (-1)
  · rw [show x8_in F k 1 3 T = some (0, T) from m_inABN (a := 1) (b := 3) h (by omega) (by omega), tt_cI, if_pos p00]
    have b := bt_same hz hx hm (-1)
    by_cases q : k < 1
    · rw [if_pos q]
      exact b
    · rw [if_neg q, if_pos]
      · exact b
      · rw [tt_lt] at q ⊢
        simp only [Int32.reduceToInt] at q ⊢
        omega
