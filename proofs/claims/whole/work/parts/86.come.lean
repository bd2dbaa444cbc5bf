/-! ===== odds, the reference's way ===== -/
theorem ad_cm {v : Nat → Nat} {i j x y : Nat} : ad (ad v i x) j y = ad (ad v j y) i x := by
  funext d
  unfold ad
  (repeat' split) <;> omega
theorem up_adw {g : Nat → Int64} {v w : Nat → Nat} {B p k : Nat} (hp : p < 120) (h : ∀ d, d < 120 → g (B + d) = lN (v d * w d)) : ∀ d, d < 120 → vp_updL g (B + p) (g (B + p) + lN k * lN (w p)) (B + d) = lN (ad v p k d * w d) := by
  intro d hd
  unfold ad
  by_cases q : d = p
  · rw [q, pk_uLs, if_pos rfl, h p hp, lN_mul, lN_add, Nat.add_mul]
  · rw [pk_uLn (by omega), if_neg q, h d hd]
theorem m_77s {F h i n s s' m : Nat} {o l5 : Int32} {z : zz} {T : sm_t} {g : Nat → Int64} {c56 : Int32 → Int32 → sm_t → Option sm_t} {f : Nat} (hF : 1000 < F) (hz : zw z) (hk : mk z T.1) (ho : T.1 52 19 = o) (hh : h < z_ho z) (hi : i < 120) (hn0 : 0 < n) (hn : n < 2 ^ 63) (hl : ¬ 2 ≤ l5) (hs : z_co z h = s) (hs' : s' < 8) (ht : ∀ T' : sm_t, x8_turned F (nI s) l5 T' = some (nI s', T')) (hm : l5 = 0 ∧ m = 2 ∨ ¬ l5 = 0 ∧ m = 1) : x8_setCome_77 F c56 (f + 1) (nI h) (nI i) (lN n) l5 (wg T 64 g) = x8_setCome_77 F c56 f (nI h) (nI i) (lN n) (l5 + 1) (wg T 64 (vp_updL g (120 * (h + 1) + zgo i s') (g (120 * (h + 1) + zgo i s') + lN (n * m) * lN (zhr z o (h + 1) (zgo i s'))))) := by
  have h6 := hz.2.2.1.2.1
  have hk' : mk z (wg T 64 g).1 := hk
  have hp := zgo_lt hi hs'
  have hle : ¬ lN n ≤ 0 := fun p => by
    have := (pk_lLE (b := 0) hn (by omega)).mp p
    omega
  rw [x8_setCome_77, if_neg hl, if_neg hle, k_courseOf hz hk' hh, tt_cI, hs, ht, tt_cI, m_goes hi hs', tt_cI, nI_1 h, tk_m120, nI_add, tt_rd (by omega) (by omega), wg_s, show x8_hourWeight F (nI (h + 1)) (nI (zgo i s')) (wg T 64 g) = _ from m_hourW hF hz hk' ho (by omega) hp, tt_cL, tt_cL, tt_wl (by omega) (by omega), tt_wl (by omega) (by omega), wL_g, wL_g, wg_wg, wg_wg, wg_s]
  rcases hm with ⟨p, rfl⟩ | ⟨p, rfl⟩
  · rw [if_pos p, show lN n * 2 = lN (n * 2) from lN_mul n 2]
  · rw [if_neg p, show lN n * 1 = lN (n * 1) from lN_mul n 1]
theorem m_77 {F h i n s : Nat} {o : Int32} {z : zz} {T : sm_t} {g : Nat → Int64} {v : Nat → Nat} {c56 : Int32 → Int32 → sm_t → Option sm_t} (hF : 1000 < F) (hz : zw z) (hk : mk z T.1) (ho : T.1 52 19 = o) (hh : h < z_ho z) (hi : i < 120) (hn : n < 2 ^ 63) (hs : z_co z h = s) (hg : ∀ d, d < 120 → g (120 * (h + 1) + d) = lN (v d * zhr z o (h + 1) d)) : ∃ g1, x8_setCome_77 F c56 F (nI h) (nI i) (lN n) (-1) (wg T 64 g) = c56 (nI h) (nI (i + 1)) (wg T 64 g1) ∧ (∀ d, d < 120 → g1 (120 * (h + 1) + d) = lN (ad (ad (ad v (zgo i s) (2 * n)) (zgo i ((s + 7) % 8)) n) (zgo i ((s + 1) % 8)) n d * zhr z o (h + 1) d)) ∧ ∀ j, ¬ (120 * (h + 1) ≤ j ∧ j < 120 * (h + 2)) → g1 j = g j := by
  have hs8 : s < 8 := by
    rw [← hs]
    exact hz.2.2.1.2.2.1 h hh
  have h7 : (s + 7) % 8 < 8 := Nat.mod_lt _ (by omega)
  have h1 : (s + 1) % 8 < 8 := Nat.mod_lt _ (by omega)
  obtain ⟨f, hf⟩ : ∃ f, F = f + 1 + 1 + 1 + 1 := ⟨F - 4, by omega⟩
  by_cases q : n = 0
  · refine ⟨g, ?_, fun d hd => ?_, fun j _ => rfl⟩
    · have : ∀ f0, x8_setCome_77 F c56 (f0 + 1) (nI h) (nI i) (lN n) (-1) (wg T 64 g) = c56 (nI h) (nI (i + 1)) (wg T 64 g) := by
        intro f0
        rw [x8_setCome_77, if_neg (by decide), q, if_pos (show lN 0 ≤ 0 by decide), nI_1]
      have e := this (f + 1 + 1 + 1)
      rw [← hf] at e
      exact e
    · rw [hg d hd, q]
      have e : ∀ (v : Nat → Nat) p, ad v p 0 = v := fun v p => funext fun d => by
        unfold ad
        split <;> omega
      rw [show 2 * 0 = 0 from rfl, e, e, e]
  · have u1 := up_adw (p := zgo i ((s + 7) % 8)) (k := n * 1) (zgo_lt hi h7) hg
    have u2 := up_adw (p := zgo i s) (k := n * 2) (zgo_lt hi hs8) u1
    have u3 := up_adw (p := zgo i ((s + 1) % 8)) (k := n * 1) (zgo_lt hi h1) u2
    have p1 := zgo_lt hi h7
    have p2 := zgo_lt hi hs8
    have p3 := zgo_lt hi h1
    refine ⟨_, ?_, fun d hd => (u3 d hd).trans ?_, fun j hj => ?_⟩
    · have e1 := m_77s (c56 := c56) (g := g) (f := f + 1 + 1 + 1) (l5 := -1) (m := 1) hF hz hk ho hh hi (show 0 < n by omega) hn (by decide) hs h7 (fun T' => m_tuL hs8) (Or.inr ⟨by decide, rfl⟩)
      have e2 := m_77s (c56 := c56) (g := vp_updL g (120 * (h + 1) + zgo i ((s + 7) % 8)) (g (120 * (h + 1) + zgo i ((s + 7) % 8)) + lN (n * 1) * lN (zhr z o (h + 1) (zgo i ((s + 7) % 8))))) (f := f + 1 + 1) (l5 := 0) (m := 2) hF hz hk ho hh hi (show 0 < n by omega) hn (by decide) hs hs8 (fun T' => m_tu0 hs8) (Or.inl ⟨rfl, rfl⟩)
      have e3 := m_77s (c56 := c56) (g := vp_updL (vp_updL g (120 * (h + 1) + zgo i ((s + 7) % 8)) (g (120 * (h + 1) + zgo i ((s + 7) % 8)) + lN (n * 1) * lN (zhr z o (h + 1) (zgo i ((s + 7) % 8))))) (120 * (h + 1) + zgo i s) (vp_updL g (120 * (h + 1) + zgo i ((s + 7) % 8)) (g (120 * (h + 1) + zgo i ((s + 7) % 8)) + lN (n * 1) * lN (zhr z o (h + 1) (zgo i ((s + 7) % 8)))) (120 * (h + 1) + zgo i s) + lN (n * 2) * lN (zhr z o (h + 1) (zgo i s)))) (f := f + 1) (l5 := 1) (m := 1) hF hz hk ho hh hi (show 0 < n by omega) hn (by decide) hs h1 (fun T' => m_tuR hs8) (Or.inr ⟨by decide, rfl⟩)
      rw [show (-1 : Int32) + 1 = 0 by decide] at e1
      rw [show (0 : Int32) + 1 = 1 by decide] at e2
      rw [show (1 : Int32) + 1 = 2 by decide] at e3
      have e4 : ∀ T', x8_setCome_77 F c56 (f + 1) (nI h) (nI i) (lN n) 2 T' = c56 (nI h) (nI (i + 1)) T' := fun T' => by
        rw [x8_setCome_77, if_pos (by decide), nI_1]
      rw [e4] at e3
      rw [← hf] at e1
      exact e1.trans (e2.trans e3)
    · rw [Nat.mul_one, Nat.mul_comm n 2, ad_cm (i := zgo i ((s + 7) % 8)) (j := zgo i s)]
    · rw [pk_uLn (by omega), pk_uLn (by omega), pk_uLn (by omega)]
theorem m_56 {F h : Nat} {o : Int32} {z : zz} {T : sm_t} {g : Nat → Int64} {c46 : Int32 → sm_t → Option sm_t} (hF : 1000 < F) (hz : zw z) (hk : mk z T.1) (ho : T.1 52 19 = o) (hh : h < z_ho z) (hb : ∀ c, c < 120 → zC z o h c < 2 ^ 63) (hg : ∀ c, c < 120 → g (120 * h + c) = lN (zC z o h c)) (hg0 : ∀ j, 120 * (h + 1) ≤ j → j < 840 → g j = 0) : ∃ g1, x8_setCome_56 F c46 F (nI h) 0 (wg T 64 g) = c46 (nI (h + 1)) (wg T 64 g1) ∧ (∀ d, d < 120 → g1 (120 * (h + 1) + d) = lN (zC z o (h + 1) d)) ∧ ∀ j, ¬ (120 * (h + 1) ≤ j ∧ j < 120 * (h + 2)) → g1 j = g j := by
  have h6 := hz.2.2.1.2.1
  refine lp0 (fun f (s : sm_t) i => x8_setCome_56 F c46 f (nI h) i s) 120 (fun i s => ∃ g1, s = wg T 64 g1 ∧ (∀ d, d < 120 → g1 (120 * (h + 1) + d) = lN (zsp (zC z o h) (z_co z h) i d * zhr z o (h + 1) d)) ∧ ∀ j, ¬ (120 * (h + 1) ≤ j ∧ j < 120 * (h + 2)) → g1 j = g j) (fun r => ∃ g1, r = c46 (nI (h + 1)) (wg T 64 g1) ∧ (∀ d, d < 120 → g1 (120 * (h + 1) + d) = lN (zC z o (h + 1) d)) ∧ ∀ j, ¬ (120 * (h + 1) ≤ j ∧ j < 120 * (h + 2)) → g1 j = g j) (f := F) (a := wg T 64 g) (by omega) ⟨g, rfl, fun d hd => ?_, fun j _ => rfl⟩ (fun f s hs => ?_) (fun f i s hi hs => Or.inr ?_)
  · rw [hg0 _ (by omega) (by omega)]
    show (0 : Int64) = lN (0 * _)
    rw [Nat.zero_mul]
    rfl
  · obtain ⟨g1, rfl, a1, a2⟩ := hs
    refine ⟨g1, ?_, fun d hd => ?_, a2⟩
    · change x8_setCome_56 F c46 (f + 1) (nI h) 120 _ = _
      rw [x8_setCome_56, if_pos (by decide), nI_1]
    · rw [a1 d hd, zC_M (by omega), zM_s]
  · obtain ⟨g1, rfl, a1, a2⟩ := hs
    have va : (wg T 64 g1).2.1 64 (120 * h + i) = lN (zC z o h i) := by
      rw [wg_s, a2 _ (by omega), hg i hi]
    obtain ⟨g2, e2, b1, b2⟩ := m_77 (c56 := x8_setCome_56 F c46 f) (g := g1) (v := zsp (zC z o h) (z_co z h) i) hF hz hk ho hh hi (hb i hi) rfl a1
    refine ⟨wg T 64 g2, ?_, g2, rfl, b1, fun j hj => (b2 j hj).trans (a2 j hj)⟩
    change x8_setCome_56 F c46 (f + 1) (nI h) (nI i) _ = x8_setCome_56 F c46 f (nI h) (nI (i + 1)) _
    rw [x8_setCome_56, if_neg (show ¬ (120 : Int32) ≤ nI i from nI_ge (b := 120) hi (by omega)), tk_m120, nI_add, tt_r _ va (by omega) (by omega), e2]
theorem m_come {F : Nat} {o : Int32} {z : zz} {T : sm_t} (hF : 1000 < F) (hz : zw z) (hk : mk z T.1) (ho : T.1 52 19 = o) (hb : ∀ h, h ≤ z_ho z → ∀ c, c < 120 → zC z o h c < 2 ^ 63) : ∃ g, x8_setCome F T = some (wg T 64 g) ∧ ∀ h, h ≤ z_ho z → ∀ c, c < 120 → g (120 * h + c) = lN (zC z o h c) := by
  have h6 := hz.2.2.1.2.1
  have hce := hz.2.2.1.1
  have e0 : ∃ g, x8_setCome F T = x8_setCome_22 F (wg T 64 g) ∧ ∀ k, k < 840 → g k = 0 := by
    unfold x8_setCome
    refine lp0 (fun f (s : sm_t) i => x8_setCome_2 F f i s) 840 (fun i s => ∃ g, s = wg T 64 g ∧ ∀ k, k < i → g k = 0) (fun r => ∃ g, r = x8_setCome_22 F (wg T 64 g) ∧ ∀ k, k < 840 → g k = 0) (f := F) (a := T) (by omega) ⟨_, wg_id.symm, fun k hk => by omega⟩ (fun f s hs => ?_) (fun f i s hi hs => ?_)
    · obtain ⟨g, rfl, hg⟩ := hs
      refine ⟨g, ?_, hg⟩
      change x8_setCome_2 F (f + 1) 840 _ = _
      rw [x8_setCome_2, if_pos (by decide)]
    · obtain ⟨g, rfl, hg⟩ := hs
      refine Or.inr ⟨wg T 64 (vp_updL g i 0), ?_, _, rfl, fun k hk => ?_⟩
      · change x8_setCome_2 F (f + 1) (nI i) _ = x8_setCome_2 F f (nI (i + 1)) _
        rw [x8_setCome_2, if_neg (show ¬ (840 : Int32) ≤ nI i from nI_ge (b := 840) hi (by omega)), tt_wl hi (by omega), wL_g, wg_wg, wg_s, nI_1]
      · by_cases q : k = i
        · rw [q, pk_uLs]
        · rw [pk_uLn q]
          exact hg k (by omega)
  obtain ⟨g, e1, hg⟩ := e0
  rw [e1]
  have hk' : mk z (wg T 64 g).1 := hk
  unfold x8_setCome_22
  rw [tr_0 _ (by omega) (by omega), tr_0 _ (by omega) (by omega), show (wg T 64 g).1 59 0 = nI (z_ce z) from hk.1.1, show x8_hourWeight F 0 (nI (z_ce z)) (wg T 64 g) = _ from m_hourW (h := 0) hF hz hk' ho (by omega) hce, tt_cL, tt_wl (by omega) (by omega), wL_g, wg_wg, wg_s]
  refine lp0 (fun f (s : sm_t) i => x8_setCome_46 F f i s) (z_ho z) (fun h s => ∃ g, s = wg T 64 g ∧ (∀ k, k ≤ h → ∀ c, c < 120 → g (120 * k + c) = lN (zC z o k c)) ∧ ∀ j, 120 * (h + 1) ≤ j → j < 840 → g j = 0) (fun r => ∃ g, r = some (wg T 64 g) ∧ ∀ h, h ≤ z_ho z → ∀ c, c < 120 → g (120 * h + c) = lN (zC z o h c)) (f := F) (a := wg T 64 (vp_updL g (z_ce z) (lN (zhr z o 0 (z_ce z))))) (by omega) ⟨_, rfl, fun k hk0 c hc => ?_, fun j hj hj2 => ?_⟩ (fun f s hs => ?_) (fun f h s hh hs => Or.inr ?_)
  · obtain rfl : k = 0 := by omega
    rw [zC_M (by omega), show 120 * 0 + c = c by omega]
    show _ = lN ((if c = z_ce z then 1 else 0) * zhr z o 0 c)
    by_cases q : c = z_ce z
    · rw [q, pk_uLs, if_pos rfl, Nat.one_mul]
    · rw [pk_uLn q, if_neg q, Nat.zero_mul, hg c (by omega)]
      rfl
  · rw [pk_uLn (by omega)]
    exact hg j hj2
  · obtain ⟨g, rfl, a1, a2⟩ := hs
    refine ⟨g, ?_, a1⟩
    change x8_setCome_46 F (f + 1) (nI (z_ho z)) _ = _
    rw [x8_setCome_46, k_hours (show mk z (wg T 64 g).1 from hk), tt_cI, if_pos (nI_le (by omega) (by omega))]
  · obtain ⟨g, rfl, a1, a2⟩ := hs
    obtain ⟨g1, e2, b1, b2⟩ := m_56 (c46 := x8_setCome_46 F f) (g := g) hF hz hk ho hh (hb h (by omega)) (a1 h (Nat.le_refl h)) a2
    refine ⟨wg T 64 g1, ?_, g1, rfl, fun k hk0 c hc => ?_, fun j hj hj2 => ?_⟩
    · change x8_setCome_46 F (f + 1) (nI h) _ = x8_setCome_46 F f (nI (h + 1)) _
      rw [x8_setCome_46, k_hours (show mk z (wg T 64 g).1 from hk), tt_cI, if_neg (nI_ge hh (by omega)), e2]
    · by_cases q : k = h + 1
      · rw [q]
        exact b1 c hc
      · rw [b2 _ (by omega)]
        exact a1 k (by omega) c hc
    · rw [b2 _ (by omega)]
      exact a2 j (by omega) hj2
/-- the reference's weights, so far -/
def eI (z : zz) (k : Nat) (o : Int32) (T : sm_t) (c : Nat) (s : sm_t) : Prop := s.1 = T.1 ∧ s.2.2 = T.2.2 ∧ (∀ d, d < c → s.2.1 66 d = lN (zw_ z k o d)) ∧ s.2.1 52 23 = lN (zs (zw_ z k o) c) ∧ (∀ j, j ≠ 23 → s.2.1 52 j = T.2.1 52 j) ∧ ∀ q, q ≠ 52 → q ≠ 66 → s.2.1 q = T.2.1 q
theorem eI_s {z : zz} {k c : Nat} {o : Int32} {T s : sm_t} (h : eI z k o T c s) : eI z k o T (c + 1) (sm_wL (sm_wL s 66 c (lN (zw_ z k o c))) 52 23 (lN (zs (zw_ z k o) c) + lN (zw_ z k o c))) := by
  obtain ⟨h1, h2, h3, h4, h5, h6⟩ := h
  refine ⟨h1, h2, fun d hd => ?_, ?_, fun j hj => ?_, fun q q1 q2 => ?_⟩
  · rw [tt_4 (by omega), tt_4s]
    by_cases q : d = c
    · rw [if_pos q, q]
    · rw [if_neg q]
      exact h3 d (by omega)
  · rw [tt_4s, if_pos rfl, zs_s, lN_add]
  · rw [tt_4s, if_neg hj, tt_4 (by omega)]
    exact h5 j hj
  · rw [tt_4 q1, tt_4 q2]
    exact h6 q q1 q2
theorem m_ending {F k : Nat} {o : Int32} {z : zz} {T : sm_t} (hF : 1000 < F) (hz : zw z) (hk : mk z T.1) (ho : T.1 52 19 = o) (hk3 : k < 4) (hst : k ≠ 0 → (z_st z k).isSome = true) (hb : ∀ h, h ≤ z_ho z → ∀ c, c < 120 → zC z o h c < 2 ^ 63) : ∃ T1, x8_setEnding F (nI k) T = some T1 ∧ T1.1 = T.1 ∧ T1.2.2 = T.2.2 ∧ (∀ c, c < 120 → T1.2.1 66 c = lN (zw_ z k o c)) ∧ T1.2.1 52 23 = lN (za_ z k o) ∧ (∀ j, j ≠ 23 → T1.2.1 52 j = T.2.1 52 j) ∧ (∀ q, q ≠ 52 → q ≠ 64 → q ≠ 66 → T1.2.1 q = T.2.1 q) ∧ (k = 0 → ∀ h, h ≤ z_ho z → ∀ c, c < 120 → T1.2.1 64 (120 * h + c) = lN (zC z o h c)) := by
  have h6 := hz.2.2.1.2.1
  unfold x8_setEnding
  rw [tt_n]
  by_cases q : k = 0
  · subst q
    obtain ⟨g, e, hg⟩ := m_come (T := sm_wL T 52 23 0) hF hz hk ho hb
    rw [if_pos (show nI 0 = 0 from rfl), e, tt_cV]
    have key : ∃ T1, x8_setEnding_15 F F (nI 0) 0 (wg (sm_wL T 52 23 0) 64 g) = some T1 ∧ eI z 0 o (wg (sm_wL T 52 23 0) 64 g) 120 T1 := by
      refine lp0 (fun f (s : sm_t) i => x8_setEnding_15 F f (nI 0) i s) 120 (fun c s => eI z 0 o (wg (sm_wL T 52 23 0) 64 g) c s) (fun r => ∃ T1, r = some T1 ∧ eI z 0 o (wg (sm_wL T 52 23 0) 64 g) 120 T1) (f := F) (a := wg (sm_wL T 52 23 0) 64 g) (by omega) ⟨rfl, rfl, fun d hd => by omega, ?_, fun j _ => rfl, fun q _ _ => rfl⟩ (fun f s hs => ⟨s, ?_, hs⟩) (fun f c s hc hs => Or.inr ⟨_, ?_, eI_s hs⟩)
      · rw [wg_o (by omega), tt_4s, if_pos rfl]
        rfl
      · change x8_setEnding_15 F (f + 1) (nI 0) 120 s = _
        rw [x8_setEnding_15, if_pos (by decide)]
      · change x8_setEnding_15 F (f + 1) (nI 0) (nI c) s = x8_setEnding_15 F f (nI 0) (nI (c + 1)) _
        have i1 : s.1 = T.1 := hs.1
        have hks : mk z s.1 := by rw [i1]; exact hk
        have hos : s.1 52 19 = o := by rw [i1]; exact ho
        have vs : ∀ h, h ≤ z_ho z → s.2.1 64 (120 * h + c) = lN (zC z o h c) := fun h hh => by
          rw [hs.2.2.2.2.2 64 (by omega) (by omega), wg_s]
          exact hg h hh c hc
        rw [x8_setEnding_15, if_neg (show ¬ (120 : Int32) ≤ nI c from nI_ge (b := 120) hc (by omega))]
        have e26 : x8_setEnding_26 F (x8_setEnding_15 F f) F (nI 0) (nI c) 0 0 s = x8_setEnding_83 F (x8_setEnding_15 F f) (nI 0) (nI c) (lN (zw_ z 0 o c)) s := by
          refine lp0 (fun f1 (a : Int64) i => x8_setEnding_26 F (x8_setEnding_15 F f) f1 (nI 0) (nI c) a i s) (z_ho z + 1) (fun h a => a = lN (zs (fun h => zL z o (-9) 0 h c) h)) (fun r => r = x8_setEnding_83 F (x8_setEnding_15 F f) (nI 0) (nI c) (lN (zw_ z 0 o c)) s) (f := F) (a := 0) (by omega) rfl (fun f1 a ha => ?_) (fun f1 h a hh ha => Or.inr ⟨_, ?_, rfl⟩)
          · change x8_setEnding_26 F (x8_setEnding_15 F f) (f1 + 1) (nI 0) (nI c) a (nI (z_ho z + 1)) s = _
            rw [x8_setEnding_26, k_hours hks, tt_cI, if_pos (nI_lt (by omega) (by omega)), ha]
            rfl
          · change x8_setEnding_26 F (x8_setEnding_15 F f) (f1 + 1) (nI 0) (nI c) a (nI h) s = x8_setEnding_26 F (x8_setEnding_15 F f) f1 (nI 0) (nI c) (lN (zs (fun h => zL z o (-9) 0 h c) h + zL z o (-9) 0 h c)) (nI (h + 1)) s
            rw [x8_setEnding_26, k_hours hks, tt_cI, if_neg (nI_nlt (show h ≤ z_ho z by omega) (by omega)), if_pos (show nI 0 = 0 from rfl), tk_m120, nI_add, tt_r _ (vs h (by omega)) (by omega) (by omega), zL_C (by omega), ← lN_add, ← lN_mul, ha, nI_1]
            by_cases q : lN (zC z o h c) = 0
            · rw [if_pos q, tt_n, q, Int64.zero_mul]
            · rw [if_neg q, m_endW hF hz hks hos (by omega) hc, tt_cL, tt_n]
        rw [e26]
        unfold x8_setEnding_83
        rw [if_pos (show nI 0 = 0 from rfl), tt_wl hc (by omega), tt_n, tt_rd hc (by omega), tt_n, tt_4 (show 52 ≠ 66 by omega), hs.2.2.2.1, tt_4s, if_pos rfl, nI_1]
    obtain ⟨T1, e1, i1, i2, i3, i4, i5, i6⟩ := key
    refine ⟨T1, e1, i1, i2, i3, i4, fun j hj => ?_, fun q a1 a2 a3 => ?_, fun _ h hh c hc => ?_⟩
    · rw [i5 j hj, wg_o (by omega), tt_4s, if_neg hj]
    · rw [i6 q a1 a3, wg_o a2, tt_4 a1]
    · rw [i6 64 (by omega) (by omega), wg_s]
      exact hg h hh c hc
  · obtain ⟨w, hw⟩ := Option.isSome_iff_exists.mp (hst q)
    obtain ⟨k, rfl⟩ : ∃ m, k = m + 1 := ⟨k - 1, by omega⟩
    rw [if_neg (nI_ne0 (by omega) (by omega))]
    have key : ∃ T1, x8_setEnding_15 F F (nI (k + 1)) 0 (sm_wL T 52 23 0) = some T1 ∧ eI z (k + 1) o (sm_wL T 52 23 0) 120 T1 := by
      refine lp0 (fun f (s : sm_t) i => x8_setEnding_15 F f (nI (k + 1)) i s) 120 (fun c s => eI z (k + 1) o (sm_wL T 52 23 0) c s) (fun r => ∃ T1, r = some T1 ∧ eI z (k + 1) o (sm_wL T 52 23 0) 120 T1) (f := F) (a := sm_wL T 52 23 0) (by omega) ⟨rfl, rfl, fun d hd => by omega, ?_, fun j _ => rfl, fun q _ _ => rfl⟩ (fun f s hs => ⟨s, ?_, hs⟩) (fun f c s hc hs => Or.inr ⟨_, ?_, eI_s hs⟩)
      · rw [tt_4s, if_pos rfl]
        rfl
      · change x8_setEnding_15 F (f + 1) (nI (k + 1)) 120 s = _
        rw [x8_setEnding_15, if_pos (by decide)]
      · change x8_setEnding_15 F (f + 1) (nI (k + 1)) (nI c) s = x8_setEnding_15 F f (nI (k + 1)) (nI (c + 1)) _
        have i1 : s.1 = T.1 := hs.1
        have hks : mk z s.1 := by rw [i1]; exact hk
        have hos : s.1 52 19 = o := by rw [i1]; exact ho
        have hwl : w c ≤ 99 := hz.2.2.2.1 (k + 1) w hw c hc
        have ez : (nI (w c)).toInt64 * lN (zG z o c) = lN (zw_ z (k + 1) o c) := by
          rw [nI_l (by omega), lN_mul]
          unfold zw_
          rw [if_neg q, hw]
        rw [x8_setEnding_15, if_neg (show ¬ (120 : Int32) ≤ nI c from nI_ge (b := 120) hc (by omega))]
        have e26 : ∀ f1, x8_setEnding_26 F (x8_setEnding_15 F f) (f1 + 1) (nI (k + 1)) (nI c) 0 0 s = x8_setEnding_83 F (x8_setEnding_15 F f) (nI (k + 1)) (nI c) 0 s := fun f1 => by
          rw [x8_setEnding_26, k_hours hks, tt_cI, if_neg (show ¬ nI (z_ho z) < 0 from nI_pos (by omega)), if_neg (nI_ne0 (by omega) (by omega))]
        obtain ⟨f1, hf1⟩ : ∃ f1, F = f1 + 1 := ⟨F - 1, by omega⟩
        have e27 := e26 f1
        rw [← hf1] at e27
        rw [e27]
        unfold x8_setEnding_83
        rw [if_neg (nI_ne0 (by omega) (by omega)), tk_m120, nI_add, tt_r _ ((hks.2.2.2 k (by omega)).2 w hw c hc) (by omega) (by omega), m_wOf hF hz hks hos hc, tt_cL, ez, tt_wl hc (by omega), tt_n, tt_rd hc (by omega), tt_n, tt_4 (show 52 ≠ 66 by omega), hs.2.2.2.1, tt_4s, if_pos rfl, nI_1]
    obtain ⟨T1, e1, i1, i2, i3, i4, i5, i6⟩ := key
    refine ⟨T1, e1, i1, i2, i3, i4, fun j hj => ?_, fun q a1 a2 a3 => ?_, fun x => absurd x q⟩
    · rw [i5 j hj, tt_4s, if_neg hj]
    · rw [i6 q a1 a3, tt_4 a1]
