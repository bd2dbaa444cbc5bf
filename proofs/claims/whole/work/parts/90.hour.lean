/-! ===== hour ===== -/
theorem zs_sp {g : Nat → Nat} {h : Nat} : ∀ m, zs g (h + m) = zs g h + zs (fun i => g (h + i)) m := by
  intro m
  induction m with
  | zero => rfl
  | succ m ih =>
    show zs g (h + m) + g (h + m) = zs g h + (zs (fun i => g (h + i)) m + g (h + m))
    rw [ih, Nat.add_assoc]
theorem zs_on {f : Nat → Nat} {c : Nat} (h : ∀ d, d ≠ c → f d = 0) : ∀ n, c < n → zs f n = f c := by
  intro n
  induction n with
  | zero => intro q; omega
  | succ n ih =>
    intro q
    rw [zs_s]
    by_cases e : c = n
    · rw [zs_z n (fun k hk => h k (by omega)), e, Nat.zero_add]
    · rw [ih (by omega), h n (by omega), Nat.add_zero]
theorem zM_ah {z : zz} {o : Int32} {h c : Nat} (hh : h < 1000) : ∀ k, k ≤ h → zM z o (nI h) c k = zM z o (-9) 0 k := by
  intro k
  induction k with
  | zero => exact fun _ => rfl
  | succ k ih =>
    intro hk
    show zsp (fun d => if nI k = nI h ∧ d ≠ c then 0 else zM z o (nI h) c k d * zhr z o k d) (z_co z k) 120 = zsp (fun d => if nI k = -9 ∧ d ≠ 0 then 0 else zM z o (-9) 0 k d * zhr z o k d) (z_co z k) 120
    have : (fun d => if nI k = nI h ∧ d ≠ c then 0 else zM z o (nI h) c k d * zhr z o k d) = (fun d => if nI k = -9 ∧ d ≠ 0 then 0 else zM z o (-9) 0 k d * zhr z o k d) := funext fun d => by
      rw [if_neg (fun p => by have := (nI_eq (by omega) (by omega)).mp p.1; omega), if_neg (fun p => ne_9 (by omega) p.1), ih (by omega)]
    rw [this]
theorem z_thr {z : zz} {h c : Nat} (hz : zw z) (hh : h < 7) (hc : c < 120) : zs (fun k => zs (zL z (-9) (nI h) c k) 120) (z_ho z + 1) = if h ≤ z_ho z then zC z (-9) h c * zR z (-9) (z_ho z - h) h c else 0 := by
  have h6 := hz.2.2.1.2.1
  have lo : ∀ k, k < h → k < 1000 → zs (zL z (-9) (nI h) c k) 120 = 0 := fun k hk hk2 => zs_z 120 (fun d _ => if_pos (nI_lt hk (by omega)))
  by_cases q : h ≤ z_ho z
  · rw [if_pos q, show z_ho z + 1 = h + (z_ho z - h + 1) by omega, zs_sp, zs_z h (fun k hk => lo k hk (by omega)), Nat.zero_add, zdual hz (z_ho z - h) h (by omega) (fun j hj hj2 p => by have := (nI_eq (by omega) (by omega)).mp p; omega) (fun j hj hj2 => nI_nlt hj (by omega)), zs_on (c := c) (fun d hd => by
      show zN z (-9) (nI h) c h d * _ = 0
      rw [show zN z (-9) (nI h) c h d = 0 from if_pos ⟨rfl, hd⟩, Nat.zero_mul]) 120 hc]
    have : zN z (-9) (nI h) c h c = zC z (-9) h c := by
      rw [zC_M (by omega)]
      show (if nI h = nI h ∧ c ≠ c then 0 else zM z (-9) (nI h) c h c * zhr z (-9) h c) = _
      rw [if_neg (fun p => p.2 rfl), zM_ah (by omega) h (Nat.le_refl h)]
    rw [this]
  · rw [if_neg q]
    exact zs_z _ (fun k hk => lo k (by omega) (by omega))
theorem z_thr_le {z : zz} {h c : Nat} (hz : zw z) (hh : h ≤ z_ho z) (hc : c < 120) : zC z (-9) h c * zR z (-9) (z_ho z - h) h c ≤ za_ z 0 (-9) := by
  have h6 := hz.2.2.1.2.1
  rw [za_0]
  unfold zaf0
  rw [show z_ho z + 1 = h + (z_ho z - h + 1) by omega, zs_sp, zdual hz (z_ho z - h) h (by omega) (fun j hj hj2 p => ne_9 (by omega) p) (fun j hj hj2 p => by rw [tt_lt, tt_nI (by omega), tt_neg9] at p; omega)]
  have := zs_le1 (f := fun d => zN z (-9) (-9) 0 h d * zR z (-9) (z_ho z - h) h d) 120 hc
  have e : zN z (-9) (-9) 0 h c = zC z (-9) h c := rfl
  rw [← e]
  exact Nat.le_trans this (Nat.le_add_left _ _)
theorem mk_wg {z : zz} {K T : sm_t} {a : Nat} {g : Nat → Int64} (h : mi z K T) : mk z (wg T a g).1 := by
  have h1 : mk z T.1 := mk_of h
  exact h1
theorem m_r27s {F h i s s' m a f : Nat} {l5 : Int32} {z : zz} {K T : sm_t} {g : Nat → Int64} {R : Nat → Nat} {c11 : Int32 → Int32 → sm_t → Option sm_t} (hF : 1000 < F) (hz : zw z) (hk : mi z K T) (hh : h < z_ho z) (hi : i < 120) (hl : ¬ 2 ≤ l5) (hs : z_co z h = s) (hs' : s' < 8) (ht : ∀ T' : sm_t, x8_turned F (nI s) l5 T' = some (nI s', T')) (hm : l5 = 0 ∧ m = 2 ∨ ¬ l5 = 0 ∧ m = 1) (hg : ∀ c, c < 120 → g (120 * (h + 1) + c) = lN (R c)) : x8_setRest_27 F c11 (f + 1) (nI h) (nI i) (lN a) l5 (wg T 65 g) = x8_setRest_27 F c11 f (nI h) (nI i) (lN (a + m * (zhr z (-9) (h + 1) (zgo i s') * R (zgo i s')))) (l5 + 1) (wg T 65 g) := by
  have h6 := hz.2.2.1.2.1
  have hk' : mk z (wg T 65 g).1 := mk_wg hk
  have hp := zgo_lt hi hs'
  rw [x8_setRest_27, if_neg hl, k_hours hk', tt_cI, if_neg (nI_ge hh (by omega)), k_courseOf hz hk' hh, tt_cI, hs, ht, tt_cI, m_goes hi hs', tt_cI]
  have st : ∀ t1 : Nat, x8_setRest_70 F (x8_setRest_27 F c11 f) (nI h) (nI i) l5 (nI (zgo i s')) (lN a) (lN t1) (wg T 65 g) = x8_setRest_27 F c11 f (nI h) (nI i) (lN (a + t1 * (zhr z (-9) (h + 1) (zgo i s') * R (zgo i s')))) (l5 + 1) (wg T 65 g) := fun t1 => by
    unfold x8_setRest_70
    rw [nI_1 h, show x8_hourWeight F (nI (h + 1)) (nI (zgo i s')) (wg T 65 g) = _ from m_hourW hF hz hk' hk.2.2.2.2.2.2.2.2.2 (by omega) hp, tt_cL, tk_m120, nI_add, tt_r _ (show (wg T 65 g).2.1 65 (120 * (h + 1) + zgo i s') = lN (R (zgo i s')) by rw [wg_s]; exact hg _ hp) (by omega) (by omega), tt_n, lN_mul, lN_mul, lN_add, Nat.mul_assoc]
  rcases hm with ⟨p, rfl⟩ | ⟨p, rfl⟩
  · rw [if_pos p]
    exact st 2
  · rw [if_neg p]
    exact st 1
theorem m_r27 {F h i : Nat} {z : zz} {K T : sm_t} {g : Nat → Int64} {c11 : Int32 → Int32 → sm_t → Option sm_t} (hF : 1000 < F) (hz : zw z) (hk : mi z K T) (hh : h ≤ z_ho z) (hi : i < 120) (hg : h < z_ho z → ∀ c, c < 120 → g (120 * (h + 1) + c) = lN (zR z (-9) (z_ho z - (h + 1)) (h + 1) c)) : x8_setRest_27 F c11 F (nI h) (nI i) (lN (zE z (-9) h i)) (-1) (wg T 65 g) = c11 (nI h) (nI (i + 1)) (wg T 65 (vp_updL g (120 * h + i) (lN (zR z (-9) (z_ho z - h) h i)))) := by
  have h6 := hz.2.2.1.2.1
  have e103 : ∀ n, x8_setRest_103 F c11 (nI h) (nI i) (lN n) (wg T 65 g) = c11 (nI h) (nI (i + 1)) (wg T 65 (vp_updL g (120 * h + i) (lN n))) := fun n => by
    unfold x8_setRest_103
    rw [tk_m120, nI_add, tt_wl (by omega) (by omega), wL_g, wg_wg, wg_s, nI_1]
  obtain ⟨f, hf⟩ : ∃ f, F = f + 1 + 1 + 1 + 1 := ⟨F - 4, by omega⟩
  by_cases q : h = z_ho z
  · have : ∀ f0, x8_setRest_27 F c11 (f0 + 1) (nI h) (nI i) (lN (zE z (-9) h i)) (-1) (wg T 65 g) = x8_setRest_103 F c11 (nI h) (nI i) (lN (zE z (-9) h i)) (wg T 65 g) := fun f0 => by
      rw [x8_setRest_27, if_neg (by decide), k_hours (show mk z (wg T 65 g).1 from mk_wg hk), tt_cI, if_pos (nI_le (by omega) (by omega))]
    have e := this (f + 1 + 1 + 1)
    rw [← hf] at e
    rw [e, e103, show z_ho z - h = 0 by omega]
    rfl
  · have hlt : h < z_ho z := by omega
    have hs8 := hz.2.2.1.2.2.1 h hlt
    have h7 : (z_co z h + 7) % 8 < 8 := Nat.mod_lt _ (by omega)
    have h1 : (z_co z h + 1) % 8 < 8 := Nat.mod_lt _ (by omega)
    have hg := hg hlt
    have e1 := m_r27s (c11 := c11) (a := zE z (-9) h i) (f := f + 1 + 1 + 1) (l5 := -1) (m := 1) hF hz hk hlt hi (by decide) rfl h7 (fun T' => m_tuL hs8) (Or.inr ⟨by decide, rfl⟩) hg
    have e2 := fun a => m_r27s (c11 := c11) (a := a) (f := f + 1 + 1) (l5 := 0) (m := 2) hF hz hk hlt hi (by decide) rfl hs8 (fun T' => m_tu0 hs8) (Or.inl ⟨rfl, rfl⟩) hg
    have e3 := fun a => m_r27s (c11 := c11) (a := a) (f := f + 1) (l5 := 1) (m := 1) hF hz hk hlt hi (by decide) rfl h1 (fun T' => m_tuR hs8) (Or.inr ⟨by decide, rfl⟩) hg
    rw [show (-1 : Int32) + 1 = 0 by decide] at e1
    rw [show (0 : Int32) + 1 = 1 by decide] at e2
    rw [show (1 : Int32) + 1 = 2 by decide] at e3
    rw [← hf] at e1
    rw [e1, e2, e3, x8_setRest_27, if_pos (by decide), e103]
    have ez : z_ho z - h = z_ho z - (h + 1) + 1 := by omega
    have er : zR z (-9) (z_ho z - h) h i = zE z (-9) h i + (2 * (zhr z (-9) (h + 1) (zgo i (z_co z h)) * zR z (-9) (z_ho z - (h + 1)) (h + 1) (zgo i (z_co z h))) + zhr z (-9) (h + 1) (zgo i ((z_co z h + 7) % 8)) * zR z (-9) (z_ho z - (h + 1)) (h + 1) (zgo i ((z_co z h + 7) % 8)) + zhr z (-9) (h + 1) (zgo i ((z_co z h + 1) % 8)) * zR z (-9) (z_ho z - (h + 1)) (h + 1) (zgo i ((z_co z h + 1) % 8))) := by
      rw [ez]
      rfl
    rw [er]
    congr 4
    omega
theorem rs_i : ∀ a, a < 7 → ∀ i, i < a + 1 → nI a - nI i = nI (a - i) ∧ nI a - nI i + (-1) = nI a - nI (i + 1) := by decide +kernel
theorem rs_e : ∀ a, a < 7 → nI a - nI (a + 1) < 0 := by decide +kernel
theorem m_rest {F : Nat} {z : zz} {K T : sm_t} (hF : 1000 < F) (hz : zw z) (hk : mi z K T) : ∃ g, x8_setRest F T = some (wg T 65 g) ∧ ∀ h, h ≤ z_ho z → ∀ c, c < 120 → g (120 * h + c) = lN (zR z (-9) (z_ho z - h) h c) := by
  have h6 := hz.2.2.1.2.1
  unfold x8_setRest
  rw [k_hours (mk_of hk), tt_cI]
  refine lp0 (fun f (s : sm_t) i => x8_setRest_5 F f (nI (z_ho z) - i) s) (z_ho z + 1) (fun i s => ∃ g, s = wg T 65 g ∧ ∀ h, z_ho z < h + i → h ≤ z_ho z → ∀ c, c < 120 → g (120 * h + c) = lN (zR z (-9) (z_ho z - h) h c)) (fun r => ∃ g, r = some (wg T 65 g) ∧ ∀ h, h ≤ z_ho z → ∀ c, c < 120 → g (120 * h + c) = lN (zR z (-9) (z_ho z - h) h c)) (f := F) (a := T) (by omega) ⟨_, wg_id.symm, fun h h1 h2 => by omega⟩ (fun f s hs => ?_) (fun f i s hi hs => Or.inr ?_) |> fun r => by rw [show (0 : Int32) = nI 0 from rfl, pk_sub (Nat.zero_le _), Nat.sub_zero] at r; exact r
  · obtain ⟨g, rfl, hg⟩ := hs
    refine ⟨g, ?_, fun h hh => hg h (by omega) hh⟩
    change x8_setRest_5 F (f + 1) (nI (z_ho z) - nI (z_ho z + 1)) _ = _
    rw [x8_setRest_5, if_pos (rs_e _ (by omega))]
  · obtain ⟨g, rfl, hg⟩ := hs
    have e := rs_i (z_ho z) (by omega) i hi
    have key : ∃ g1, x8_setRest_11 F (x8_setRest_5 F f) F (nI (z_ho z - i)) 0 (wg T 65 g) = x8_setRest_5 F f (nI (z_ho z - i) + (-1)) (wg T 65 g1) ∧ (∀ c, c < 120 → g1 (120 * (z_ho z - i) + c) = lN (zR z (-9) (z_ho z - (z_ho z - i)) (z_ho z - i) c)) ∧ ∀ j, 120 * (z_ho z - i + 1) ≤ j → g1 j = g j := by
      refine lp0 (fun m (s : sm_t) c => x8_setRest_11 F (x8_setRest_5 F f) m (nI (z_ho z - i)) c s) 120 (fun n s => ∃ g1, s = wg T 65 g1 ∧ (∀ c, c < n → g1 (120 * (z_ho z - i) + c) = lN (zR z (-9) (z_ho z - (z_ho z - i)) (z_ho z - i) c)) ∧ ∀ j, 120 * (z_ho z - i + 1) ≤ j → g1 j = g j) (fun r => ∃ g1, r = x8_setRest_5 F f (nI (z_ho z - i) + (-1)) (wg T 65 g1) ∧ (∀ c, c < 120 → g1 (120 * (z_ho z - i) + c) = lN (zR z (-9) (z_ho z - (z_ho z - i)) (z_ho z - i) c)) ∧ ∀ j, 120 * (z_ho z - i + 1) ≤ j → g1 j = g j) (f := F) (a := wg T 65 g) (by omega) ⟨g, rfl, fun c hc => by omega, fun j _ => rfl⟩ (fun m s hs => ?_) (fun m c s hc hs => Or.inr ?_)
      · obtain ⟨g1, rfl, a1, a2⟩ := hs
        refine ⟨g1, ?_, a1, a2⟩
        change x8_setRest_11 F (x8_setRest_5 F f) (m + 1) (nI (z_ho z - i)) 120 _ = _
        rw [x8_setRest_11, if_pos (by decide)]
      · obtain ⟨g1, rfl, a1, a2⟩ := hs
        refine ⟨wg T 65 (vp_updL g1 (120 * (z_ho z - i) + c) (lN (zR z (-9) (z_ho z - (z_ho z - i)) (z_ho z - i) c))), ?_, _, rfl, fun d hd => ?_, fun j hj => ?_⟩
        · change x8_setRest_11 F (x8_setRest_5 F f) (m + 1) (nI (z_ho z - i)) (nI c) _ = x8_setRest_11 F (x8_setRest_5 F f) m (nI (z_ho z - i)) (nI (c + 1)) _
          rw [x8_setRest_11, if_neg (show ¬ (120 : Int32) ≤ nI c from nI_ge (b := 120) hc (by omega)), m_endW hF hz (show mk z (wg T 65 g1).1 from mk_wg hk) hk.2.2.2.2.2.2.2.2.2 (by omega) hc, tt_cL]
          exact m_r27 hF hz hk (by omega) hc (fun hlt d hd => by
            rw [a2 _ (by omega)]
            exact hg (z_ho z - i + 1) (by omega) (by omega) d hd)
        · by_cases q : d = c
          · rw [q, pk_uLs]
          · rw [pk_uLn (by omega)]
            exact a1 d (by omega)
        · rw [pk_uLn (by omega)]
          exact a2 j hj
    obtain ⟨g1, k1, k2, k3⟩ := key
    refine ⟨wg T 65 g1, ?_, g1, rfl, fun h hh hh2 c hc => ?_⟩
    · change x8_setRest_5 F (f + 1) (nI (z_ho z) - nI i) _ = x8_setRest_5 F f (nI (z_ho z) - nI (i + 1)) _
      rw [x8_setRest_5, ← e.2, e.1, if_neg (nI_pos (by omega)), k1]
    · by_cases q : h = z_ho z - i
      · rw [q]
        exact k2 c hc
      · rw [k3 _ (by omega)]
        exact hg h (by omega) hh2 c hc
theorem q_hour {z : zz} {J K S T : sm_t} (hz : zw z) (hx : xi z J S) (hm : mi z K T) {F : Nat} (hF : 1000 < F) (h c : Int32) : bt J K (x7_hour F h c S) (x8_hour F h c T) := by
  have h6 := hz.2.2.1.2.1
  unfold x7_hour x8_hour
  rcases tt_below h 7 (by omega) with ⟨h, hh, rfl⟩ | q
  · rw [show x7_isWithin F (nI h) 6 S = some (1, S) from x_wi1 (b := 6) (by omega) (by omega), show x8_in F (nI h) 0 6 T = some (1, T) from m_in1 (b := 6) (by omega) (by omega), tt_cI, tt_cI, if_neg n10, if_neg n10]
    rcases tt_below c 120 (by omega) with ⟨c, hc, rfl⟩ | q
    · rw [x_cell1 hc, m_cell1 hc, tt_cI, tt_cI, if_neg n10, if_neg n10]
      rcases b_weigh (F := F) (k := 0) hz hx hm hF (by omega) with ⟨v, z1, S1, T1, v0, v1, e1, e2, a1, a2, a3⟩ | ⟨S1, T1, e1, e2, a1, a2, a3, a4, a5, a6, -, -⟩
      · rw [show x7_weighed F 0 S = _ from e1, show x8_weigh F 0 T = _ from e2, tt_cI, tt_cI, if_neg v0, if_neg v1]
        exact bt_same a1 a2 a3 _
      · obtain ⟨S2, b1, b2⟩ := x_flight (o := -9) (ah := nI h) (l3 := nI c) (ac := c) hF hz a1 (fun _ _ _ => ⟨rfl, hc⟩)
        obtain ⟨g, c1, c2⟩ := m_rest hF hz a2
        rw [z_thr hz hh hc] at b1 b2
        obtain ⟨i1, ⟨a, b, hab, ha, hb, -⟩, i3, i4, i5, -⟩ := b2
        have x2 : xi z J S2 := xc_sc hz a1 (fun b hb => by rw [i1]) (fun b hb => i5 b (by omega)) (by rw [ha, hb]; omega)
        have m2 : mi z K (wg T1 65 g) := mc_sc a2 (fun b _ => rfl) ⟨rfl, rfl, rfl, rfl⟩ (fun b hb => wg_o (by omega)) ⟨by rw [wg_o (by omega)], by rw [wg_o (by omega)]⟩ rfl
        have hl : (if h ≤ z_ho z then zC z (-9) h c * zR z (-9) (z_ho z - h) h c else 0) ≤ za_ z 0 (-9) := by
          by_cases q : h ≤ z_ho z
          · rw [if_pos q]
            exact z_thr_le hz q hc
          · rw [if_neg q]
            exact Nat.zero_le _
        obtain ⟨u, l, f1, f2⟩ := b_fr (ans := 1) (S := S2) (T := wg T1 65 g) hF (show (if h ≤ z_ho z then zC z (-9) h c * zR z (-9) (z_ho z - h) h c else 0) < 2 ^ 63 by omega) a5 (by omega)
        have eT : x8_part F (lN (if h ≤ z_ho z then zC z (-9) h c * zR z (-9) (z_ho z - h) h c else 0)) (lN (za_ z 0 (-9))) 1 (wg T1 65 g) = some (1, mF (wg T1 65 g) u l) := f2
        rw [show x7_weighed F 0 S = _ from e1, show x8_weigh F 0 T = _ from e2, tt_cI, tt_cI, if_pos p00, if_pos (show (0 : Int32) ≤ 0 by decide)]
        unfold x2_weighThrough
        rw [b1, tt_cL, tt_cL, tt_n, show S2.2.1 18 = S1.2.1 18 from i5 18 (by omega), a3.2.1, f1, tt_cV, c1, tt_cV, k_hours (show mk z (wg T1 65 g).1 from mk_wg a2), tt_cI, tt_n, wg_o (show 52 ≠ 65 by omega), a4.2.1]
        have fin : ∀ r, r = some (1, mF (wg T1 65 g) u l) → bt J K (some (1, xF S2 u l)) r := fun r hr => by
          rw [hr]
          exact bt_F hz x2 m2 _ _ _
        by_cases q : h ≤ z_ho z
        · rw [if_pos q] at eT
          have v63 : (wg T1 65 g).2.1 64 (120 * h + c) = lN (zC z (-9) h c) := by
            rw [wg_o (by omega)]
            exact a4.2.2 rfl h q c hc
          rw [if_neg (nI_nlt q (by omega)), tk_m120, nI_add, tt_r _ v63 (by omega) (by omega), tt_r _ v63 (by omega) (by omega), tt_r _ (show (wg T1 65 g).2.1 65 (120 * h + c) = lN (zR z (-9) (z_ho z - h) h c) by rw [wg_s]; exact c2 h q c hc) (by omega) (by omega), tt_n, lN_mul]
          by_cases q0 : lN (zC z (-9) h c) = 0
          · rw [← lN_mul, q0, Int64.zero_mul] at eT
            rw [if_pos q0, eT, tt_cI]
            exact fin _ rfl
          · rw [if_neg q0, tt_n, eT, tt_cI]
            exact fin _ rfl
        · rw [if_neg q] at eT
          rw [if_pos (nI_lt (by omega) (by omega)), show x8_part F 0 (lN (za_ z 0 (-9))) 1 (wg T1 65 g) = _ from eT, tt_cI]
          exact fin _ rfl
    · rw [x_cell0 q, m_cell0 q]
      exact bt_same hz hx hm (-1)
  · rw [show x7_isWithin F h 6 S = some (0, S) from x_wiN (b := 6) (by omega) (by omega), show x8_in F h 0 6 T = some (0, T) from m_inN (b := 6) (by omega) (by omega)]
    exact bt_same hz hx hm (-1)
