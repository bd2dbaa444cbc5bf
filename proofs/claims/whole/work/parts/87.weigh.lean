/-! ===== weighing; fractions ===== -/
theorem lz_p {w : Nat} {f : Nat → Nat} {i : Nat} (h : lN (w * zp f i) = 0) : ∀ n, i ≤ n → lN (w * zp f n) = 0 := by
  intro n
  induction n with
  | zero =>
    intro hi
    obtain rfl : i = 0 := by omega
    exact h
  | succ n ih =>
    intro hi
    by_cases q : i = n + 1
    · rw [← q]
      exact h
    · rw [zp_s, ← Nat.mul_assoc, ← lN_mul, ih (by omega), Int64.zero_mul]
theorem x_t22 {F c a w : Nat} {o : Int32} {l3 : Int64} {z : zz} {S : sm_t} {c5 : Nat → Int32 → Int64 → Int32 → sm_t → Option (Int64 × sm_t)} (hF : 1000 < F) (hz : zw z) (hk : xk z S.1) (hc : c < 120) : x2_weighText_22 F c5 F a o l3 (nI c) (lN w) 0 S = x2_weighText_97 F c5 a o l3 (nI c) (lN (w * zG z o c)) S := by
  have hn := hz.2.2.2.2.1
  unfold zG
  refine lp0 (fun f (p : Int64) i => x2_weighText_22 F c5 f a o l3 (nI c) p i S) (z_sn z) (fun i p => p = lN (w * zp (zgt z o c) i)) (fun r => r = x2_weighText_97 F c5 a o l3 (nI c) (lN (w * zp (zgt z o c) (z_sn z))) S) (f := F) (a := lN w) (by omega) (by show lN w = lN (w * 1); rw [Nat.mul_one]) (fun f p hp => ?_) (fun f i p hi hp => ?_)
  · change x2_weighText_22 F c5 (f + 1) a o l3 (nI c) p (nI (z_sn z)) S = _
    rw [x2_weighText_22, tt_n, hk.2.1.1, if_pos (nI_le (by omega) (by omega)), hp]
  · change x2_weighText_22 F c5 (f + 1) a o l3 (nI c) p (nI i) S = _ ∨ ∃ p1, x2_weighText_22 F c5 (f + 1) a o l3 (nI c) p (nI i) S = x2_weighText_22 F c5 f a o l3 (nI c) p1 (nI (i + 1)) S ∧ p1 = lN (w * (zp (zgt z o c) i * zgt z o c i))
    have hs := sg_lt hz hi
    have hw := zwt_le (z_sg z i) c
    rw [x2_weighText_22, tt_n, hk.2.1.1, if_neg (nI_ge hi (by omega)), hp]
    by_cases q0 : lN (w * zp (zgt z o c) i) = 0
    · rw [if_pos q0, q0, lz_p q0 _ (by omega)]
      exact Or.inl rfl
    · refine Or.inr ⟨_, ?_, rfl⟩
      rw [if_neg q0, x_win hz hk hi, tt_cI, nI_1 i]
      unfold zgt
      cases zct z o i with
      | false => rw [if_pos (zi_0 rfl), if_neg (by decide), ← lm_0]
      | true =>
        rw [if_neg (zi_1 rfl), if_pos rfl, tt_rd (by omega) (by omega), tt_on (sq_sg hz hi), tt_n, hk.2.1.2 i 0 hi (by omega)]
        by_cases q3 : z_sg z i 0 = 3
        · rw [if_pos ((k3 hz hi).mpr q3), if_pos q3, tt_n, lm_12]
        · rw [if_neg (fun p => q3 ((k3 hz hi).mp p)), if_neg q3, k_xw hz hk hi hc (fun q => absurd q q3), tt_cI, tt_n, lm_k hw]
theorem x_wtext {F k : Nat} {o : Int32} {z : zz} {S : sm_t} {w : Nat → Nat} (hF : 1000 < F) (hz : zw z) (hk : xk z S.1) (hk3 : k < 3) (hw : z_st z (k + 1) = some w) : ∃ g, x2_weighText F (37 + k) o S = some (lN (za_ z (k + 1) o), wg S 40 g) ∧ ∀ c, c < 120 → g c = lN (zw_ z (k + 1) o c) := by
  have hwl := hz.2.2.2.1 (k + 1) w hw
  have ez : ∀ c, zw_ z (k + 1) o c = w c * zG z o c := fun c => by
    unfold zw_
    rw [if_neg (by omega), hw]
  unfold x2_weighText za_
  refine lp0 (fun f (p : Int64 × sm_t) i => x2_weighText_5 F f (37 + k) o p.1 i p.2) 120 (fun i p => p.1 = lN (zs (zw_ z (k + 1) o) i) ∧ ∃ g, p.2 = wg S 40 g ∧ ∀ c, c < i → g c = lN (zw_ z (k + 1) o c)) (fun r => ∃ g, r = some (lN (zs (zw_ z (k + 1) o) 120), wg S 40 g) ∧ ∀ c, c < 120 → g c = lN (zw_ z (k + 1) o c)) (f := F) (a := (0, S)) (by omega) ⟨rfl, _, wg_id.symm, fun c hc => by omega⟩ (fun f p hp => ?_) (fun f c p hc hp => Or.inr ?_)
  · obtain ⟨p1, p2⟩ := p
    obtain ⟨h1, g, h2, hg⟩ := hp
    change p1 = _ at h1
    change p2 = _ at h2
    subst h1 h2
    refine ⟨g, ?_, hg⟩
    change x2_weighText_5 F (f + 1) (37 + k) o _ 120 _ = _
    rw [x2_weighText_5, if_pos (by decide)]
  · obtain ⟨p1, p2⟩ := p
    obtain ⟨h1, g, h2, hg⟩ := hp
    change p1 = _ at h1
    change p2 = _ at h2
    subst h1 h2
    refine ⟨(lN (zs (zw_ z (k + 1) o) c + zw_ z (k + 1) o c), wg S 40 (vp_updL g c (lN (zw_ z (k + 1) o c)))), ?_, rfl, _, rfl, fun d hd => ?_⟩
    · change x2_weighText_5 F (f + 1) (37 + k) o _ (nI c) (wg S 40 g) = x2_weighText_5 F f (37 + k) o _ (nI (c + 1)) _
      have := hwl c hc
      rw [x2_weighText_5, if_neg (show ¬ (120 : Int32) ≤ nI c from nI_ge (b := 120) hc (by omega)), tt_an (tt_sq_story k hk3), tt_r _ (show (wg S 40 g).1 (37 + k) c = nI (w c) from (hk.2.2 k hk3).2 w hw c hc) hc (by omega), tt_n, nI_l (by omega), x_t22 hF hz (show xk z (wg S 40 g).1 from hk) hc]
      unfold x2_weighText_97
      rw [← ez, tt_wl hc (by omega), wL_g, wg_wg, wg_s, tt_n, lN_add, nI_1]
    · by_cases q : d = c
      · rw [q, pk_uLs]
      · rw [pk_uLn q]
        exact hg d (by omega)
/-- what weighing leaves -/
def xW (z : zz) (k : Nat) (o : Int32) (S1 : sm_t) : Prop := (∀ c, c < 120 → S1.2.1 40 c = lN (zw_ z k o c)) ∧ S1.2.1 18 5 = lN (za_ z k o) ∧ (k = 0 → ∀ h, h < 7 → S1.2.1 41 h = if h ≤ z_ho z then lN (zs (zL z o (-9) 0 h) 120) else 0)
theorem x_weigh {F k : Nat} {o : Int32} {z : zz} {J S : sm_t} (hF : 1000 < F) (hz : zw z) (hx : xi z J S) (hk4 : k < 4) (hst : k ≠ 0 → (z_st z k).isSome = true) : ∃ S1, x2_weigh F (nI k) o S = some (lN (za_ z k o), S1) ∧ xi z J S1 ∧ xW z k o S1 := by
  unfold x2_weigh
  by_cases q : k = 0
  · subst q
    obtain ⟨S1, e, hf⟩ := x_flight (o := o) (ah := -9) (l3 := -9) (ac := 0) hF hz hx (fun h hh p => absurd p (ne_9 (by omega)))
    rw [show zs (fun k => zs (zL z o (-9) 0 k) 120) (z_ho z + 1) = za_ z 0 o from za_0.symm] at e hf
    obtain ⟨i1, ⟨a, b, hab, ha, hb, -⟩, i3, i4, i5, -⟩ := hf
    refine ⟨sm_wL S1 18 5 (lN (za_ z 0 o)), ?_, ?_, fun c hc => ?_, ?_, fun _ h hh => ?_⟩
    · rw [if_pos (show nI 0 = 0 from rfl), e, tt_cL, tt_n, tt_n, tt_4s, if_pos rfl]
    · refine xc_sc hz hx (fun b hb => by show S1.1 b = S.1 b; rw [i1]) (fun b hb => ?_) ?_
      · rw [tt_4 (by omega)]
        exact i5 b (by omega)
      · show (S1.2.2.1 = 42 ∧ S1.2.2.2.1 = 43) ∨ (S1.2.2.1 = 43 ∧ S1.2.2.2.1 = 42)
        rw [ha, hb]
        omega
    · rw [tt_4 (by omega), i3 c hc]
      rfl
    · rw [tt_4s, if_pos rfl]
    · rw [tt_4 (by omega), i4 h hh]
      by_cases p : h ≤ z_ho z
      · rw [if_pos (by omega), if_pos p]
      · rw [if_neg (by omega), if_neg p]
  · obtain ⟨w, hw⟩ := Option.isSome_iff_exists.mp (hst q)
    obtain ⟨k, rfl⟩ : ∃ m, k = m + 1 := ⟨k - 1, by omega⟩
    obtain ⟨g, e, hg⟩ := x_wtext (o := o) hF hz (xk_of hx) (show k < 3 by omega) hw
    refine ⟨sm_wL (wg S 40 g) 18 5 (lN (za_ z (k + 1) o)), ?_, ?_, fun c hc => ?_, ?_, fun x => absurd x q⟩
    · rw [if_neg (nI_ne0 (by omega) (by omega)), nI_pred, tt_rd (by omega) (by omega), e, tt_cL, tt_n, tt_n, tt_4s, if_pos rfl]
    · refine xc_sc hz hx (fun b hb => rfl) (fun b hb => ?_) hx.2.2.2.2.2.2.2.2.2
      rw [tt_4 (by omega), wg_o (by omega)]
    · rw [tt_4 (by omega), wg_s]
      exact hg c hc
    · rw [tt_4s, if_pos rfl]
/-! the greatest divisor -/
def fp : Nat → Nat × Nat
  | 0 => (0, 1)
  | n + 1 => ((fp n).2, (fp n).1 + (fp n).2)
def fb (n : Nat) : Nat := (fp n).1
theorem fb_2 (n : Nat) : fb (n + 2) = fb n + fb (n + 1) := rfl
theorem fb_10 (n : Nat) : fb (n + 10) = 34 * fb n + 55 * fb (n + 1) ∧ fb (n + 11) = 55 * fb n + 89 * fb (n + 1) := by
  have a2 := fb_2 n
  have a3 := fb_2 (n + 1)
  have a4 := fb_2 (n + 2)
  have a5 := fb_2 (n + 3)
  have a6 := fb_2 (n + 4)
  have a7 := fb_2 (n + 5)
  have a8 := fb_2 (n + 6)
  have a9 := fb_2 (n + 7)
  have a10 := fb_2 (n + 8)
  have a11 := fb_2 (n + 9)
  simp only [Nat.add_assoc, Nat.reduceAdd] at a2 a3 a4 a5 a6 a7 a8 a9 a10 a11 ⊢
  omega
theorem fb_93 : 2 ^ 63 ≤ fb 93 := by
  have b1 : fb 3 = 2 ∧ fb 4 = 3 := ⟨rfl, rfl⟩
  have b2 := fb_10 3
  have b3 := fb_10 13
  have b4 := fb_10 23
  have b5 := fb_10 33
  have b6 := fb_10 43
  have b7 := fb_10 53
  have b8 := fb_10 63
  have b9 := fb_10 73
  have b10 := fb_10 83
  simp only [Nat.reduceAdd] at b2 b3 b4 b5 b6 b7 b8 b9 b10
  omega
theorem gc_s {a b : Nat} : Nat.gcd a b = Nat.gcd b (a % b) := by rw [Nat.gcd_comm a b, Nat.gcd_rec b a, Nat.gcd_comm]
theorem lr_1 {a b : Nat} (ha : a < 2 ^ 63) (hb : 0 < b) (hb2 : b < 2 ^ 63) : sm_lr (lN a) (lN b) = lN (a % b) := pk_lRem ha hb hb2
theorem l_ne {b : Nat} (hb : 0 < b) (hb2 : b < 2 ^ 63) : ¬ lN b = 0 := fun p => by
  have := (pk_lEQ (b := 0) hb2 (by omega)).mp p
  omega
theorem x_gd9 {F : Nat} {S : sm_t} : ∀ (n a b i f : Nat), b ≤ a → a < 2 ^ 63 → (b < fb (n + 1) ∨ a < fb (n + 2)) → i + n < 100 → n < f → x7_greatestDivisor_9 F f (lN a) (lN b) (nI i) S = some (lN (Nat.gcd a b), S) := by
  intro n
  induction n with
  | zero =>
    intro a b i f h1 h2 h3 h4 h5
    obtain ⟨f, rfl⟩ : ∃ f0, f = f0 + 1 := ⟨f - 1, by omega⟩
    have : fb 1 = 1 := rfl
    have : fb 2 = 1 := rfl
    obtain rfl : b = 0 := by
      rcases h3 with h3 | h3
      · have : b < fb 1 := h3
        omega
      · have : a < fb 2 := h3
        omega
    rw [x7_greatestDivisor_9, if_neg (show ¬ (100 : Int32) ≤ nI i from nI_ge (b := 100) (by omega) (by omega)), if_pos (show lN 0 = 0 from rfl), Nat.gcd_zero_right]
  | succ n ih =>
    intro a b i f h1 h2 h3 h4 h5
    obtain ⟨f, rfl⟩ : ∃ f0, f = f0 + 1 := ⟨f - 1, by omega⟩
    rw [x7_greatestDivisor_9, if_neg (show ¬ (100 : Int32) ≤ nI i from nI_ge (b := 100) (by omega) (by omega))]
    by_cases q : b = 0
    · rw [q, if_pos (show lN 0 = 0 from rfl), Nat.gcd_zero_right]
    · have hm : a % b < b := Nat.mod_lt _ (by omega)
      rw [if_neg (l_ne (by omega) (by omega)), if_neg (l_ne (by omega) (by omega)), tt_n, lr_1 h2 (by omega) (by omega), nI_1, gc_s]
      refine ih b (a % b) (i + 1) f (by omega) (by omega) ?_ (by omega) (by omega)
      have e := fb_2 (n + 1)
      have e2 : n + 1 + 1 = n + 2 := rfl
      rw [e2] at e
      by_cases q1 : b < fb (n + 2)
      · exact Or.inr q1
      · left
        have h6 : a < fb (n + 1 + 2) := by
          rcases h3 with h3 | h3
          · exact absurd h3 q1
          · exact h3
        have h7 : a % b ≤ a - b := by
          rw [Nat.mod_eq_sub_mod h1]
          exact Nat.mod_le _ _
        omega
theorem x_gd {F a b : Nat} {S : sm_t} (hF : 1000 < F) (ha : a < 2 ^ 63) (hb : 0 < b) (hb2 : b < 2 ^ 63) : x7_greatestDivisor F (lN a) (lN b) S = some (lN (Nat.gcd a b), S) := by
  have h93 := fb_93
  unfold x7_greatestDivisor
  by_cases q : b ≤ a
  · exact x_gd9 92 a b 0 F q ha (Or.inl (by show b < fb 93; omega)) (by omega) (by omega)
  · have : ∀ f, 95 < f → x7_greatestDivisor_9 F f (lN a) (lN b) 0 S = some (lN (Nat.gcd a b), S) := by
      intro f hf
      obtain ⟨f, rfl⟩ : ∃ f0, f = f0 + 1 := ⟨f - 1, by omega⟩
      rw [x7_greatestDivisor_9, if_neg (by decide), if_neg (l_ne hb hb2), if_neg (l_ne hb hb2), tt_n, lr_1 ha hb hb2, gc_s, Nat.mod_eq_of_lt (by omega)]
      exact x_gd9 92 b a 1 f (by omega) hb2 (Or.inl (by show a < fb 93; omega)) (by omega) (by omega)
    exact this F (by omega)
theorem m_pt {F : Nat} {up low : Int64} {ans : Int32} {S : sm_t} : ∀ (n a b f : Nat), b ≤ a → a < 2 ^ 63 → (b < fb (n + 1) ∨ a < fb (n + 2)) → n < f → x8_part_17 F f up low ans (lN a) (lN b) S = x8_part_42 F up low ans (lN (Nat.gcd a b)) S := by
  intro n
  induction n with
  | zero =>
    intro a b f h1 h2 h3 h5
    obtain ⟨f, rfl⟩ : ∃ f0, f = f0 + 1 := ⟨f - 1, by omega⟩
    have : fb 1 = 1 := rfl
    have : fb 2 = 1 := rfl
    obtain rfl : b = 0 := by
      rcases h3 with h3 | h3
      · have : b < fb 1 := h3
        omega
      · have : a < fb 2 := h3
        omega
    rw [x8_part_17, if_pos (show lN 0 = 0 from rfl), Nat.gcd_zero_right]
  | succ n ih =>
    intro a b f h1 h2 h3 h5
    obtain ⟨f, rfl⟩ : ∃ f0, f = f0 + 1 := ⟨f - 1, by omega⟩
    rw [x8_part_17]
    by_cases q : b = 0
    · rw [q, if_pos (show lN 0 = 0 from rfl), Nat.gcd_zero_right]
    · have hm : a % b < b := Nat.mod_lt _ (by omega)
      rw [if_neg (l_ne (by omega) (by omega)), if_neg (l_ne (by omega) (by omega)), tt_n, lr_1 h2 (by omega) (by omega), gc_s]
      refine ih b (a % b) f (by omega) (by omega) ?_ (by omega)
      have e := fb_2 (n + 1)
      have e2 : n + 1 + 1 = n + 2 := rfl
      rw [e2] at e
      by_cases q1 : b < fb (n + 2)
      · exact Or.inr q1
      · left
        have h6 : a < fb (n + 1 + 2) := by
          rcases h3 with h3 | h3
          · exact absurd h3 q1
          · exact h3
        have h7 : a % b ≤ a - b := by
          rw [Nat.mod_eq_sub_mod h1]
          exact Nat.mod_le _ _
        omega
theorem m_pt0 {F a b : Nat} {up low : Int64} {ans : Int32} {S : sm_t} (hF : 1000 < F) (ha : a < 2 ^ 63) (hb : 0 < b) (hb2 : b < 2 ^ 63) : x8_part_17 F F up low ans (lN a) (lN b) S = x8_part_42 F up low ans (lN (Nat.gcd a b)) S := by
  have h93 := fb_93
  by_cases q : b ≤ a
  · exact m_pt 92 a b F q ha (Or.inl (by show b < fb 93; omega)) (by omega)
  · have : ∀ f, 95 < f → x8_part_17 F f up low ans (lN a) (lN b) S = x8_part_42 F up low ans (lN (Nat.gcd a b)) S := by
      intro f hf
      obtain ⟨f, rfl⟩ : ∃ f0, f = f0 + 1 := ⟨f - 1, by omega⟩
      rw [x8_part_17, if_neg (l_ne hb hb2), if_neg (l_ne hb hb2), tt_n, lr_1 ha hb hb2, gc_s, Nat.mod_eq_of_lt (by omega)]
      exact m_pt 92 b a f (by omega) hb2 (Or.inl (by show a < fb 93; omega)) (by omega)
    exact this F (by omega)
def xF (S : sm_t) (u l : Int64) : sm_t := sm_wL (sm_wL S 3 12 u) 3 13 l
def mF (T : sm_t) (u l : Int64) : sm_t := sm_wL (sm_wL T 52 3 u) 52 4 l
theorem b_frac {F a b : Nat} {up : Int64} {ans : Int32} {S T : sm_t} (hF : 1000 < F) (ha : a < 2 ^ 63) (hb : 0 < b) (hb2 : b < 2 ^ 63) (hu : sm_al up = lN a) (hu2 : (if 0 ≤ up then up else -up) = lN a) : ∃ u l, x7_fraction F up (lN b) S = some (xF S u l) ∧ x8_part F up (lN b) ans T = some (ans, mF T u l) := by
  have hg : 0 < Nat.gcd a b := Nat.gcd_pos_of_pos_right _ hb
  have hg2 : Nat.gcd a b ≤ b := Nat.gcd_le_right _ hb
  refine ⟨up / lN (Nat.gcd a b), lN b / lN (Nat.gcd a b), ?_, ?_⟩
  · unfold x7_fraction
    rw [hu, x_gd hF ha hb hb2, tt_cL, if_neg (fun p => by
      have := (pk_lLE (b := 0) (show Nat.gcd a b < 2 ^ 63 by omega) (by omega)).mp p
      omega), if_neg (l_ne hg (by omega)), tt_n, if_neg (l_ne hg (by omega)), tt_n]
    rfl
  · have e42 : ∀ T, x8_part_42 F up (lN b) ans (lN (Nat.gcd a b)) T = some (ans, mF T (up / lN (Nat.gcd a b)) (lN b / lN (Nat.gcd a b))) := fun T => by
      unfold x8_part_42
      rw [if_neg (l_ne hg (by omega)), tt_n, if_neg (l_ne hg (by omega)), tt_n]
      rfl
    unfold x8_part
    by_cases q : 0 ≤ up
    · rw [if_pos q] at hu2
      have e := m_pt0 (F := F) (up := up) (low := lN b) (ans := ans) (S := T) hF ha hb hb2
      rw [if_pos q, ← e42, ← e, hu2]
    · rw [if_neg q] at hu2
      have e := m_pt0 (F := F) (up := up) (low := lN b) (ans := ans) (S := T) hF ha hb hb2
      rw [if_neg q, tt_n, ← e42, ← e, hu2]
theorem al_N {u : Nat} (hu : u < 2 ^ 63) : sm_al (lN u) = lN u ∧ (if 0 ≤ lN u then lN u else -lN u) = lN u := by
  have h0 : 0 ≤ lN u := (pk_lLE (a := 0) (by omega) hu).mpr (by omega)
  refine ⟨?_, if_pos h0⟩
  unfold sm_al
  by_cases q : u = 0
  · rw [q]
    rfl
  · rw [if_pos (show 0 < lN u from (pk_lLT (a := 0) (by omega) hu).mpr (by omega))]
theorem b_fr {F a b : Nat} {ans : Int32} {S T : sm_t} (hF : 1000 < F) (ha : a < 2 ^ 63) (hb : 0 < b) (hb2 : b < 2 ^ 63) : ∃ u l, x7_fraction F (lN a) (lN b) S = some (xF S u l) ∧ x8_part F (lN a) (lN b) ans T = some (ans, mF T u l) := b_frac hF ha hb hb2 (al_N ha).1 (al_N ha).2
theorem xi_F {z : zz} {J S : sm_t} {u l : Int64} (hz : zw z) (h : xi z J S) : xi (zq_ul z u l) J (xF S u l) := by
  have h8 := h.2.2.2.2.2.2.2.2.1
  refine xc_tl hz h (fun b hb => rfl) (fun b hb => ?_) rfl rfl ⟨h8.1, ?_, ?_, h8.2.2.2.1, h8.2.2.2.2⟩
  · unfold xF
    rw [tt_4 hb, tt_4 hb]
  · unfold xF
    rw [tt_4s, if_neg (by omega), tt_4s, if_pos rfl]
    rfl
  · unfold xF
    rw [tt_4s, if_pos rfl]
    rfl
theorem mi_F {z : zz} {J S : sm_t} {u l : Int64} (h : mi z J S) : mi (zq_ul z u l) J (mF S u l) := by
  have h8 := h.2.2.2.2.2.2.2.2.1
  refine mc_tl h (fun b hb => rfl) (fun i hi => rfl) (fun b hb => ?_) rfl rfl ⟨h8.1, ?_, ?_, h8.2.2.2.1, h8.2.2.2.2⟩
  · unfold mF
    rw [tt_4 hb, tt_4 hb]
  · unfold mF
    rw [tt_4s, if_neg (by omega), tt_4s, if_pos rfl]
    rfl
  · unfold mF
    rw [tt_4s, if_pos rfl]
    rfl
theorem bt_F {z : zz} {J K S T : sm_t} (hz : zw z) (hx : xi z J S) (hm : mi z K T) (v : Int32) (u l : Int64) : bt J K (some (v, xF S u l)) (some (v, mF T u l)) := ⟨_, zq_ul z u l, _, _, rfl, rfl, zw_ul hz, xi_F hz hx, mi_F hm⟩
