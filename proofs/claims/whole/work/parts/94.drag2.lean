/-! ===== drag ===== -/
theorem bg_mx {f : Nat → Nat} (hb : ∀ c, c < 120 → f c < 2 ^ 63) : ∀ i, i < 120 → ∀ c, c ≤ i → f c ≤ f (bg (fun c => lN (f c)) i) := by
  intro i
  induction i with
  | zero =>
    intro _ c hc
    obtain rfl : c = 0 := by omega
    exact Nat.le_refl _
  | succ i ih =>
    intro hi c hc
    have ih := ih (by omega)
    have hl := bg_le (f := fun c => lN (f c)) i
    show f c ≤ f (if lN (f (i + 1)) ≤ lN (f (bg (fun c => lN (f c)) i)) then bg (fun c => lN (f c)) i else i + 1)
    have cmp := pk_lLE (hb (i + 1) hi) (hb (bg (fun c => lN (f c)) i) (by omega))
    by_cases q : lN (f (i + 1)) ≤ lN (f (bg (fun c => lN (f c)) i))
    · rw [if_pos q]
      by_cases e : c = i + 1
      · rw [e]
        exact cmp.mp q
      · exact ih c (by omega)
    · rw [if_neg q]
      have : ¬ f (i + 1) ≤ f (bg (fun c => lN (f c)) i) := fun x => q (cmp.mpr x)
      by_cases e : c = i + 1
      · rw [e]
        exact Nat.le_refl _
      · have := ih c (by omega)
        omega
def dpk (b : dB) : Prop := ∀ w q, b = some (w, q) → ∀ j, q j < 120
theorem ds_pk {f : Nat → Nat} : ∀ r h p s b, (∀ j, p j < 120) → dpk b → dpk (ds f r h p s b) := by
  intro r
  induction r with
  | zero =>
    intro h p s b hp hb
    cases b with
    | none =>
      intro w q e
      cases e
      exact hp
    | some x =>
      show dpk (if x.1 < s then some (s, p) else some x)
      split
      · intro w q e
        cases e
        exact hp
      · exact hb
  | succ r ih =>
    intro h p s b hp hb
    have : ∀ m, m ≤ 120 → dpk (fd (fun d b1 => ds f r (h + 1) (upN p (h + 1) d) (if wi p d (h + 1) = true then s else s + f d) b1) (p h) m b) := by
      intro m
      induction m with
      | zero => exact fun _ => hb
      | succ m im =>
        intro hm
        show dpk (if zfar (p h) m ≤ 1 then ds f r (h + 1) (upN p (h + 1) m) (if wi p m (h + 1) = true then s else s + f m) (fd _ (p h) m b) else fd _ (p h) m b)
        split
        · refine ih _ _ _ _ (fun j => ?_) (im (by omega))
          unfold upN
          split
          · omega
          · exact hp j
        · exact im (by omega)
    exact this 120 (Nat.le_refl 120)
theorem x_unl {F n : Nat} {q : Nat → Nat} {S : sm_t} (hF : 1000 < F) (hn : n ≤ 4) (hq : ∀ j, q j < 120) (hS : ∀ j, j ≤ n → S.1 49 j = nI (q j)) : x5_unlikeCells F (nI n) S = some (nI (cu q (n + 1)), S) := by
  unfold x5_unlikeCells
  refine lp0 (fun f (a : Int32) i => x5_unlikeCells_4 F f (nI n) a i S) (n + 1) (fun i a => a = nI (cu q i)) (fun r => r = some (nI (cu q (n + 1)), S)) (f := F) (a := 0) (by omega) rfl (fun f a ha => ?_) (fun f i a hi ha => Or.inr ⟨_, ?_, rfl⟩)
  · change x5_unlikeCells_4 F (f + 1) (nI n) a (nI (n + 1)) S = _
    rw [x5_unlikeCells_4, if_pos (nI_lt (by omega) (by omega)), ha]
  · change x5_unlikeCells_4 F (f + 1) (nI n) a (nI i) S = x5_unlikeCells_4 F f (nI n) (nI (cu q i + (if wi q (q i) i = true then 0 else 1))) (nI (i + 1)) S
    have w0 : x5_wasIn F 49 (nI (q i)) (nI i - 1) S = some (nI (zi (wi q (q i) i)), S) := by
      by_cases e : i = 0
      · subst e
        unfold x5_wasIn
        have : ∀ m, 0 < m → x5_wasIn_2 F m 49 (nI (q 0)) (nI 0 - 1) 0 S = some (0, S) := by
          intro m hm
          obtain ⟨m, rfl⟩ : ∃ k, m = k + 1 := ⟨m - 1, by omega⟩
          rw [x5_wasIn_2, if_pos (by decide)]
        rw [this F (by omega)]
        rfl
      · obtain ⟨i, rfl⟩ : ∃ j, i = j + 1 := ⟨i - 1, by omega⟩
        rw [nI_pred]
        exact x_was hF sq_48 (by omega) (fun j _ => hq j) (hq _) (fun j hj => hS j (by omega))
    rw [x5_unlikeCells_4, if_neg (nI_nlt (show i ≤ n by omega) (by omega)), tt_r _ (hS i (by omega)) (by omega) (by omega), w0, tt_cI, ha, nI_1 i]
    cases wi q (q i) i with
    | false => rw [if_pos (zi_0 rfl), tt_n, nI_1, if_neg (by decide)]
    | true => rw [if_neg (zi_1 rfl), tt_n, ad_0, if_pos rfl]; rfl
theorem x_renew2 {F r n : Nat} {z : zz} {J S : sm_t} (hF : 1000 < F ∧ F < 2147483648) (hz : zw z) (h : xi z J S) (hr : r < 6) (hn : n ≤ 40) : ∃ g, x7_renew F (nI r) (nI n) S = some (wf (sm_wI S 11 r (nI n)) (5 + r) g) ∧ xi (zq_row z r n (fun _ => 0)) J (wf (sm_wI S 11 r (nI n)) (5 + r) g) := by
  obtain ⟨g, e, hg⟩ := x_fill (F := F) (v := 0) (S := sm_wI S 11 r (nI n)) (tt_sq_row r hr) (by omega) (by omega)
  refine ⟨g, ?_, ?_⟩
  · unfold x7_renew
    rw [tt_wr (by omega) (by omega), tt_rd (by omega) (by omega), e, tt_cV]
  · have h1 : xi (zq_rs z (z1r (z_rs z) r (some n))) J (sm_wI S 11 r (nI n)) := xi_rs hz h hr
    refine xc_rw _ (z_new hz hn) h1 (fun b hb => wf_o (by omega)) rfl (fun i k hi hk => ?_)
    unfold z2r
    by_cases q : i = r
    · rw [if_pos q, q, wf_s, hg, if_pos (by omega)]
    · rw [if_neg q, wf_o (by omega)]
      exact h1.2.2.1 i k hi hk
theorem m_row2 {F r n : Nat} {z : zz} {J S : sm_t} (hF : 1000 < F) (h : mi z J S) (hr : r < 6) (hn : n ≤ 40) : ∃ g, x8_row F (nI r) (nI n) S = some (nI n, wf (sm_wI S 54 r (nI n)) 55 g) ∧ mi (zq_row z r n (fun _ => 0)) J (wf (sm_wI S 54 r (nI n)) 55 g) := by
  obtain ⟨g, e, hg⟩ := m_row34 (F := F) (v := nI n) hr 40 F 0 (sm_wI S 54 r (nI n)) (by omega) (by omega)
  refine ⟨g, ?_, ?_⟩
  · unfold x8_row
    rw [m_row1 hr, tt_cI, if_neg n10, if_pos (show nI n ≤ 40 from nI_le (b := 40) hn (by omega)), if_pos (nI_pos' (by omega)), tt_wr hr (by omega)]
    exact e
  · have h1 : mi (zq_rs z (z1r (z_rs z) r (some n))) J (sm_wI S 54 r (nI n)) := mi_rs h hr
    refine mi_rw h1 hr (fun k hk => ?_) (fun k hk => ?_)
    · rw [hg, if_pos (by omega)]
    · rw [hg, if_neg (by omega)]
theorem m_d70 {F n r : Nat} {q : Nat → Nat} {T : sm_t} (hF : 1000 < F) (hn : n ≤ 4) (hr : r < 6) (hT : ∀ j, j ≤ n → T.1 68 j = nI (q j)) : ∃ g, x8_drag_70 F F (nI n) (nI r) 0 T = x8_drag_102 F (wf T 55 g) ∧ (∀ j, j ≤ n → g (40 * r + j) = nI (q j)) ∧ ∀ j, ¬ (40 * r ≤ j ∧ j ≤ 40 * r + n) → g j = T.1 55 j := by
  refine lp0 (fun f (a : sm_t) i => x8_drag_70 F f (nI n) (nI r) i a) (n + 1) (fun i a => ∃ g, a = wf T 55 g ∧ (∀ j, j < i → g (40 * r + j) = nI (q j)) ∧ ∀ j, ¬ (40 * r ≤ j ∧ j ≤ 40 * r + n) → g j = T.1 55 j) (fun o => ∃ g, o = x8_drag_102 F (wf T 55 g) ∧ (∀ j, j ≤ n → g (40 * r + j) = nI (q j)) ∧ ∀ j, ¬ (40 * r ≤ j ∧ j ≤ 40 * r + n) → g j = T.1 55 j) (f := F) (a := T) (by omega) ⟨_, wf_id.symm, fun j hj => by omega, fun j _ => rfl⟩ (fun f a ha => ?_) (fun f i a hi ha => Or.inr ?_)
  · obtain ⟨g, rfl, hg, hg2⟩ := ha
    refine ⟨g, ?_, fun j hj => hg j (by omega), hg2⟩
    change x8_drag_70 F (f + 1) (nI n) (nI r) (nI (n + 1)) _ = _
    rw [x8_drag_70, if_pos (nI_lt (by omega) (by omega))]
  · obtain ⟨g, rfl, hg, hg2⟩ := ha
    refine ⟨wf T 55 (upd g (40 * r + i) (nI (q i))), ?_, _, rfl, fun j hj => ?_, fun j hj => ?_⟩
    · change x8_drag_70 F (f + 1) (nI n) (nI r) (nI i) _ = x8_drag_70 F f (nI n) (nI r) (nI (i + 1)) _
      rw [x8_drag_70, if_neg (nI_nlt (show i ≤ n by omega) (by omega)), tt_r _ (show (wf T 55 g).1 68 i = nI (q i) by rw [wf_o (by omega)]; exact hT i (by omega)) (by omega) (by omega), tk_m40, nI_add, tt_wr (by omega) (by omega), wI_f, wf_wf, wf_s, nI_1]
    · by_cases e : j = i
      · rw [e, pk_us]
      · rw [pk_un (by omega)]
        exact hg j (by omega)
    · rw [pk_un (by omega)]
      exact hg2 j hj
theorem q_drag {z : zz} {J K S T : sm_t} (hz : zw z) (hx : xi z J S) (hm : mi z K T) {F : Nat} (hF : 1000 < F ∧ F < 2147483648) (k c n r : Int32) : bt J K (x7_drag F k c n r S) (x8_drag F k c n r T) := by
  have bb := bt_same hz hx hm (-1)
  unfold x7_drag x8_drag
  rcases tt_below c 120 (by omega) with ⟨c, hc, rfl⟩ | h
  · rw [m_cell1 hc, tt_cI, if_neg n10]
    rcases tt_below n 5 (by omega) with ⟨n, hn, rfl⟩ | h
    · rw [show x8_in F (nI n) 0 4 T = some (1, T) from m_in1 (b := 4) (by omega) (by omega), tt_cI, if_neg n10]
      rcases tt_below r 6 (by omega) with ⟨r, hr, rfl⟩ | h
      · rw [m_row1 hr, tt_cI, if_neg n10]
        rcases tt_below k 4 (by omega) with ⟨k, hk, rfl⟩ | h
        · rw [x_st1 hk, tt_cI, if_neg n10, x_cell1 hc, tt_cI, if_neg n10, show x7_isWithin F (nI n) 4 S = some (1, S) from x_wi1 (b := 4) (by omega) (by omega), tt_cI, if_neg n10, x_row1 hr, tt_cI, if_neg n10]
          rcases b_weigh (F := F) hz hx hm hF.1 hk with ⟨v, z1, S1, T1, v0, v1, e1, e2, a1, a2, a3⟩ | ⟨S1, T1, e1, e2, a1, a2, a3, a4, a5, a6, -, -⟩
          · rw [e1, e2, tt_cI, tt_cI, if_neg v0, if_neg v1]
            exact bt_same a1 a2 a3 _
          · have hbl := bg_le (f := fun c => lN (zw_ z k (-9) c)) 119
            have hwz : ∀ c, c < 120 → zw_ z k (-9) c ≤ za_ z k (-9) := fun c hc => zw_le hc
            have hGm := bg_mx (f := zw_ z k (-9)) (fun c hc => by have := hwz c hc; omega) 119 (by omega)
            have hGz := hwz (bg (fun c => lN (zw_ z k (-9) c)) 119) (by omega)
            generalize hGG : bg (fun c => lN (zw_ z k (-9) c)) 119 = gi at hbl hGm hGz
            generalize hG0 : zw_ z k (-9) gi = G at hGm hGz
            have hG : ∀ c, c < 120 → zw_ z k (-9) c ≤ G := fun c hc => hGm c (by omega)
            have hfc := hG c hc
            -- class
            have h40 : ∀ c, c < 120 → (sm_wI (sm_wI (sm_wL S1 48 2 (-1)) 48 3 (nI n)) 50 0 (nI c)).2.1 40 c = lN (zw_ z k (-9) c) := fun d hd => by
              show (sm_wL S1 48 2 (-1)).2.1 40 d = _
              rw [tt_4 (by omega)]
              exact a3.1 d hd
            obtain ⟨S2, x1, c1⟩ := x_sail (F := F) (n := n) (G := G) (f := zw_ z k (-9)) (S := sm_wI (sm_wI (sm_wL S1 48 2 (-1)) 48 3 (nI n)) 50 0 (nI c)) hF.1 (by omega) hG (by omega) (by rw [tt_1 (by omega), tt_1s, if_pos rfl]) h40 n 0 (fun _ => c) (zw_ z k (-9) c) none (sm_wI (sm_wI (sm_wL S1 48 2 (-1)) 48 3 (nI n)) 50 0 (nI c)) 8 (by omega) (fun _ => hc) (by omega) (fun w q e => (by cases e)) ⟨fun _ _ _ => rfl, fun _ _ => rfl, rfl, fun j hj => by
              obtain rfl : j = 0 := by omega
              rw [tt_1s, if_pos rfl], by
              show (sm_wL S1 48 2 (-1)).2.1 48 2 = -1
              rw [tt_4s, if_pos rfl], fun w q e => (by cases e)⟩ (by omega)
            -- reference
            obtain ⟨T2, y1, d1⟩ := m_dragOn (F := F) (n := n) (G := G) (f := zw_ z k (-9)) (T := sm_wL T1 52 26 (-1)) hF.1 (by omega) hG (by omega) (fun d hd => by rw [tt_4 (by omega)]; exact a4.1 d hd) n 0 (fun _ => c) 0 none (sm_wL T1 52 26 (-1)) 8 (by omega) (fun _ => hc) (by
              show (0 + zw_ z k (-9) c) + n * G ≤ 5 * G
              have : n * G ≤ 4 * G := Nat.mul_le_mul_right _ (by omega)
              omega) (fun w q e => (by cases e)) ⟨fun _ _ _ _ => rfl, fun _ _ => rfl, fun _ _ => rfl, fun _ _ => rfl, rfl, fun j hj => by omega, by rw [tt_4s, if_pos rfl]; rfl, fun w q e => (by cases e)⟩ (by omega)
            have d1' : mS (sm_wL T1 52 26 (-1)) n 0 (fun _ => c) (ds (zw_ z k (-9)) n 0 (fun _ => c) (0 + zw_ z k (-9) c) none) T2 := d1
            rw [Nat.zero_add] at d1'
            have bok := ds_ok hG n 0 (fun _ => c) (zw_ z k (-9) c) none (by
              have : n * G ≤ 4 * G := Nat.mul_le_mul_right _ (by omega)
              omega) (fun w q e => (by cases e))
            have bpk := ds_pk (f := zw_ z k (-9)) n 0 (fun _ => c) (zw_ z k (-9) c) none (fun _ => hc) (fun w q e => (by cases e))
            have bso := ds_so (f := zw_ z k (-9)) n 0 (fun _ => c) (zw_ z k (-9) c) none (fun _ => hc)
            obtain ⟨⟨w, q⟩, hbq⟩ := Option.isSome_iff_exists.mp bso
            rw [hbq] at c1 d1'
            have hwG := bok w q hbq
            have hq := bpk w q hbq
            obtain ⟨i1, i2, i3, i4, i5, i6⟩ := c1
            obtain ⟨j1, j2, j3, j4, j5, j6, j7, j8⟩ := d1'
            have xi2 : xi z J S2 := xc_sc hz a1 (fun b hb => by
              rw [i1 b (by omega) (by omega), tt_1 (by omega), tt_1 (by omega)]
              rfl) (fun b hb => by
              rw [i2 b (by omega)]
              show (sm_wL S1 48 2 (-1)).2.1 b = _
              rw [tt_4 (by omega)]) (by rw [i3]; exact a1.2.2.2.2.2.2.2.2.2)
            have mi2 : mi z K T2 := mc_sc a2 (fun b hb => j1 b (by omega) (by omega) (by omega)) ⟨j2 0 (by omega), j2 2 (by omega), j2 17 (by omega), j2 19 (by omega)⟩ (fun b hb => by rw [j3 b (by omega), tt_4 (by omega)]) ⟨by rw [j4 3 (by omega), tt_4s, if_neg (by omega)], by rw [j4 4 (by omega), tt_4s, if_neg (by omega)]⟩ j5
            have j8' := j8 w q rfl
            have i6' := i6 w q rfl
            have es : x5_search F (lN G) (nI c) (nI n) S1 = some (lN w, S2) := by
              unfold x5_search
              rw [tt_n, tt_n, tw_0 _ (by omega) (by omega), tt_r _ (h40 c hc) hc (by omega), show x5_sail F 8 (lN G) 0 (lN (zw_ z k (-9) c)) _ = some S2 from x1, tt_cV, tt_n, i5]
              rfl
            have e18 : S2.2.1 18 5 = lN (za_ z k (-9)) := by
              rw [i2 18 (by omega)]
              show (sm_wL S1 48 2 (-1)).2.1 18 5 = _
              rw [tt_4 (by omega)]
              exact a3.2.1
            obtain ⟨g2, y2, m3⟩ := m_row2 (n := n + 1) hF.1 mi2 hr (by omega)
            obtain ⟨g3, y3, y4, y5⟩ := m_d70 (F := F) (n := n) (r := r) (q := q) (T := wf (sm_wI T2 54 r (nI (n + 1))) 55 g2) hF.1 (by omega) hr (fun j hj => by
              rw [wf_o (by omega), tt_1 (by omega)]
              exact j8'.2 j hj)
            rw [wf_wf] at y3
            obtain ⟨u, l, f1, f2⟩ := b_fr (ans := nI (cu q (n + 1))) (S := S2) (T := wf (sm_wI T2 54 r (nI (n + 1))) 55 g3) hF.1 (show w < 2 ^ 63 by omega) a5 (by omega)
            obtain ⟨g1, x2, c2⟩ := x_renew2 (n := n + 1) hF (zw_ul hz) (xi_F (u := u) (l := l) hz xi2) hr (by omega)
            have hzr := zw_row (r := r) (n := n + 1) (g := fun _ => 0) hz (by omega)
            have hz1 := zw_row (z := zq_ul z u l) (r := r) (n := n + 1) (g := fun _ => 0) (zw_ul hz) (by omega)
            have s48 : (wf (sm_wI (xF S2 u l) 11 r (nI (n + 1))) (5 + r) g1).1 49 = S2.1 49 := by
              rw [wf_o (by omega), tt_1 (by omega)]
              rfl
            have eT : (wf (sm_wI T2 54 r (nI (n + 1))) 55 g3).1 52 27 = nI (cu q (n + 1)) := by
              rw [wf_o (by omega), tt_1 (by omega)]
              exact j8'.1
            have eT2 : (wf (sm_wI T2 54 r (nI (n + 1))) 55 g3).2.1 52 26 = lN w := j7
            have eT3 : (wf (sm_wI T2 54 r (nI (n + 1))) 55 g3).2.1 52 23 = lN (za_ z k (-9)) := by
              show T2.2.1 52 23 = _
              rw [j4 23 (by omega), tt_4s, if_neg (by omega)]
              exact a4.2.1
            rw [e1, e2, tt_cI, tt_cI, if_pos p00, if_pos (show (0 : Int32) ≤ 0 by decide), x_gr hF.1 a3.1, tt_cI, hGG, tt_r _ (a3.1 gi (by omega)) (by omega) (by omega), hG0, es, tt_cL, tt_n, e18, f1, tt_cV, nI_1, x2, tt_cV, tt_rd hr (by omega), tt_an (tt_sq_row r hr), show (0 : Int32) = nI 0 from rfl, tt_cp (by omega) (by omega) (by omega) (by omega), s48, x_unl (q := q) hF.1 (by omega) hq (fun j hj => by
              rw [wf_o (by omega), s48]
              exact i6' j hj), tt_cI, tt_n, show x8_dragOn F 8 (nI 0) (nI n) (nI c) (show Int64 from 0) (nI 0) (sm_wL T1 52 26 (-1)) = some T2 from y1, tt_cV, y2, tt_cI, show x8_drag_70 F F (nI n) (nI r) (nI 0) (wf (sm_wI T2 54 r (nI (n + 1))) 55 g2) = _ from y3]
            unfold x8_drag_102
            rw [tt_n, tt_n, tt_n, eT, eT2, eT3, f2, tt_cI]
            refine ⟨_, zq_rw (zq_row (zq_ul z u l) r (n + 1) (fun _ => 0)) (z2r (z_rw (zq_row (zq_ul z u l) r (n + 1) (fun _ => 0))) r (fun j => if j ≤ n then nI (q j) else 0)), _, _, rfl, rfl, zw_rw hz1, xi_rwg hz1 c2 hr (fun b hb => wf_o hb) rfl (fun j hj => ?_), ?_⟩
            · rw [wf_s]
              by_cases e : j ≤ n
              · rw [if_pos e, pk_cpy_in (by omega) (by omega), show 0 + (j - 0) = j by omega]
                exact i6' j e
              · rw [if_neg e, pk_cpy_out (by omega)]
                exact (c2.2.2.1 r j hr hj).trans (row_0 j)
            · have m4 : mi (zq_rw (zq_row z r (n + 1) (fun _ => 0)) (z2r (z_rw (zq_row z r (n + 1) (fun _ => 0))) r (fun j => if j ≤ n then nI (q j) else 0))) K (wf (sm_wI T2 54 r (nI (n + 1))) 55 g3) := by
                refine mi_rwg m3 hr (fun b hb => by rw [wf_o hb, wf_o hb]) rfl (fun j hj => ?_) (fun j hj => ?_)
                · rw [wf_s]
                  by_cases e : j ≤ n
                  · rw [if_pos e, y4 j e]
                  · rw [if_neg e, y5 _ (by omega)]
                    exact (m3.2.2.1 r j hr hj).trans (row_0 j)
                · rw [wf_s, y5 _ (by omega)]
              exact mi_F (u := u) (l := l) m4
        · rw [x_st0 h, tt_cI, if_pos p00, m_wk0 h]
          exact bb
      · rw [m_row0 h, tt_cI, if_pos p00]
        rcases tt_below k 4 (by omega) with ⟨k, hk, rfl⟩ | h2
        · rw [x_st1 hk, tt_cI, if_neg n10, x_cell1 hc, tt_cI, if_neg n10, show x7_isWithin F (nI n) 4 S = some (1, S) from x_wi1 (b := 4) (by omega) (by omega), tt_cI, if_neg n10, x_row0 h, tt_cI, if_pos p00]
          exact bb
        · rw [x_st0 h2, tt_cI, if_pos p00]
          exact bb
    · rw [show x8_in F n 0 4 T = some (0, T) from m_inN (b := 4) (by omega) (by omega), tt_cI, if_pos p00]
      rcases tt_below k 4 (by omega) with ⟨k, hk, rfl⟩ | h2
      · rw [x_st1 hk, tt_cI, if_neg n10, x_cell1 hc, tt_cI, if_neg n10, show x7_isWithin F n 4 S = some (0, S) from x_wiN (b := 4) (by omega) (by omega), tt_cI, if_pos p00]
        exact bb
      · rw [x_st0 h2, tt_cI, if_pos p00]
        exact bb
  · rw [m_cell0 h, tt_cI, if_pos p00]
    rcases tt_below k 4 (by omega) with ⟨k, hk, rfl⟩ | h2
    · rw [x_st1 hk, tt_cI, if_neg n10, x_cell0 h, tt_cI, if_pos p00]
      exact bb
    · rw [x_st0 h2, tt_cI, if_pos p00]
      exact bb
