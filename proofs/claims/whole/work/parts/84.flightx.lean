/-! ===== odds of the flight, the class's way ===== -/
def ad (v : Nat → Nat) (i x : Nat) : Nat → Nat := fun d => if d = i then v d + x else v d
def zsp (N : Nat → Nat) (s : Nat) : Nat → Nat → Nat
  | 0 => fun _ => 0
  | c + 1 => ad (ad (ad (zsp N s c) (zgo c s) (2 * N c)) (zgo c ((s + 7) % 8)) (N c)) (zgo c ((s + 1) % 8)) (N c)
def zM (z : zz) (o ah : Int32) (ac : Nat) : Nat → Nat → Nat
  | 0 => fun c => if c = z_ce z then 1 else 0
  | h + 1 => zsp (fun c => if nI h = ah ∧ c ≠ ac then 0 else zM z o ah ac h c * zhr z o h c) (z_co z h) 120
def zN (z : zz) (o ah : Int32) (ac h c : Nat) : Nat := if nI h = ah ∧ c ≠ ac then 0 else zM z o ah ac h c * zhr z o h c
def zL (z : zz) (o ah : Int32) (ac h c : Nat) : Nat := if nI h < ah then 0 else zN z o ah ac h c * zE z o h c
theorem wg_id {S : sm_t} {a : Nat} : wg S a (S.2.1 a) = S := by
  unfold wg
  rw [show va_up S.2.1 a (S.2.1 a) = S.2.1 from funext fun b => by
    by_cases q : b = a
    · rw [q, sm_up_s]
    · rw [sm_up_o _ _ q]]
theorem x_fillJ {F a n : Nat} {v : Int64} {S : sm_t} (hF : n < F) (ha : sm_sq a = some (.inl (.long, n))) (hn : n < 2147483648) : ∃ g, xA_fillJ F a v S = some (wg S a g) ∧ ∀ k, k < n → g k = v := by
  unfold xA_fillJ
  rw [tt_an ha, tt_n]
  refine lp0 (fun f (s : sm_t) i => xA_fillJ_6 F f a v i (nI n) s) n (fun i s => ∃ g, s = wg S a g ∧ ∀ k, k < i → g k = v) (fun o => ∃ g, o = some (wg S a g) ∧ ∀ k, k < n → g k = v) (f := F) (a := S) hF ⟨_, wg_id.symm, fun k hk => by omega⟩ (fun f s hs => ?_) (fun f i s hi hs => ?_)
  · obtain ⟨g, rfl, hg⟩ := hs
    refine ⟨g, ?_, hg⟩
    change xA_fillJ_6 F (f + 1) a v (nI n) (nI n) _ = _
    rw [xA_fillJ_6, if_pos (nI_le (by omega) (by omega))]
  · obtain ⟨g, rfl, hg⟩ := hs
    refine Or.inr ⟨wg S a (vp_updL g i v), ?_, _, rfl, fun k hk => ?_⟩
    · change xA_fillJ_6 F (f + 1) a v (nI i) (nI n) _ = xA_fillJ_6 F f a v (nI (i + 1)) (nI n) _
      rw [xA_fillJ_6, if_neg (nI_ge hi (by omega)), tt_an ha, tt_wl hi (by omega), wL_g, wg_wg, wg_s, nI_1]
    · by_cases q : k = i
      · rw [q, pk_uLs]
      · rw [pk_uLn q]
        exact hg k (by omega)
theorem x_wbh53 {F t a : Nat} {l1 l2 l3 : Int32} {S : sm_t} {c2 : Int32 → Int32 → Int32 → sm_t → Option sm_t} {wt : Nat → Nat} (hF : 1000 < F) (ht : sm_sq t = some (.inr 5)) (ha : sm_sq a = some (.inl (.long, 120))) (hS : S.2.2.1 = a) (hw : ∀ c, c < 120 → ∀ S1 : sm_t, S1.1 = S.1 → x6_weight F t (nI c) S1 = some (nI (wt c), S1)) (hwt : ∀ c, wt c ≤ 12) : ∃ g, x2_weighByHour_53 F c2 F l1 l2 l3 t 0 S = c2 l1 l2 (l3 + 1) (wg S a g) ∧ ∀ c, c < 120 → g c = S.2.1 a c * lN (wt c) := by
  refine lp0 (fun f (s : sm_t) i => x2_weighByHour_53 F c2 f l1 l2 l3 t i s) 120 (fun i s => ∃ g, s = wg S a g ∧ ∀ c, c < 120 → g c = if c < i then S.2.1 a c * lN (wt c) else S.2.1 a c) (fun o => ∃ g, o = c2 l1 l2 (l3 + 1) (wg S a g) ∧ ∀ c, c < 120 → g c = S.2.1 a c * lN (wt c)) (f := F) (a := S) (by omega) ⟨_, wg_id.symm, fun k hk => by rw [if_neg (by omega)]⟩ (fun f s hs => ?_) (fun f i s hi hs => ?_)
  · obtain ⟨g, rfl, hg⟩ := hs
    refine ⟨g, ?_, fun c hc => by rw [hg c hc, if_pos hc]⟩
    change x2_weighByHour_53 F c2 (f + 1) l1 l2 l3 t 120 _ = _
    rw [x2_weighByHour_53, if_pos (by decide)]
  · obtain ⟨g, rfl, hg⟩ := hs
    have gi : g i = S.2.1 a i := by rw [hg i hi, if_neg (by omega)]
    have e0 : x2_weighByHour_53 F c2 (f + 1) l1 l2 l3 t (nI i) (wg S a g) = if S.2.1 a i = 0 then x2_weighByHour_53 F c2 f l1 l2 l3 t (nI (i + 1)) (wg S a g) else x2_weighByHour_53 F c2 f l1 l2 l3 t (nI (i + 1)) (wg S a (vp_updL g i (S.2.1 a i * lN (wt i)))) := by
      rw [x2_weighByHour_53, if_neg (show ¬ (120 : Int32) ≤ nI i from nI_ge (b := 120) hi (by omega)), tt_n, tt_n, wg_2, hS, tt_an ha, tt_an ha, tt_rd hi (by omega), tt_rd hi (by omega), wg_s, gi, tt_on ht, hw i hi (wg S a g) rfl, tt_cI, tt_wl hi (by omega), wL_g, wg_wg, wg_s, nI_l (by have := hwt i; omega), nI_1]
    have hn : ∀ g2 : Nat → Int64, (∀ d, d ≠ i → g2 d = g d) → g2 i = S.2.1 a i * lN (wt i) → ∀ c, c < 120 → g2 c = if c < i + 1 then S.2.1 a c * lN (wt c) else S.2.1 a c := by
      intro g2 h1 h2 d hd
      by_cases p : d = i
      · rw [p, if_pos (by omega), h2]
      · rw [h1 d p, hg d hd]
        by_cases p1 : d < i
        · rw [if_pos p1, if_pos (by omega)]
        · rw [if_neg p1, if_neg (by omega)]
    by_cases q : S.2.1 a i = 0
    · exact Or.inr ⟨wg S a g, e0.trans (if_pos q), g, rfl, hn g (fun d _ => rfl) (by rw [gi, q, Int64.zero_mul])⟩
    · exact Or.inr ⟨_, e0.trans (if_neg q), _, rfl, hn _ (fun d hd => pk_uLn hd) pk_uLs⟩
theorem x_wbh {F h a : Nat} {o : Int32} {z : zz} {S : sm_t} (hF : 1000 < F) (hz : zw z) (hk : xk z S.1) (hh : h < 8) (ha : sm_sq a = some (.inl (.long, 120))) (hS : S.2.2.1 = a) : ∃ g, x2_weighByHour F (nI h) o S = some (wg S a g) ∧ ∀ c, c < 120 → g c = S.2.1 a c * lN (zhr z o h c) := by
  have hn := hz.2.2.2.2.1
  unfold x2_weighByHour zhr
  refine lp0 (fun f (s : sm_t) i => x2_weighByHour_2 F f (nI h) o i s) (z_sn z) (fun i s => ∃ g, s = wg S a g ∧ ∀ c, c < 120 → g c = S.2.1 a c * lN (zp (zhf z o h c) i)) (fun r => ∃ g, r = some (wg S a g) ∧ ∀ c, c < 120 → g c = S.2.1 a c * lN (zp (zhf z o h c) (z_sn z))) (f := F) (a := S) (by omega) ⟨_, wg_id.symm, fun c hc => by show _ = _ * (1 : Int64); rw [Int64.mul_one]⟩ (fun f s hs => ?_) (fun f i s hi hs => Or.inr ?_)
  · obtain ⟨g, rfl, hg⟩ := hs
    refine ⟨g, ?_, hg⟩
    change x2_weighByHour_2 F (f + 1) (nI h) o (nI (z_sn z)) _ = _
    rw [x2_weighByHour_2, tt_n, show (wg S a g).1 22 1 = nI (z_sn z) from hk.2.1.1, if_pos (nI_le (by omega) (by omega))]
  · obtain ⟨g, rfl, hg⟩ := hs
    have hs := sg_lt hz hi
    have hk' : xk z (wg S a g).1 := hk
    change ∃ s1, x2_weighByHour_2 F (f + 1) (nI h) o (nI i) (wg S a g) = x2_weighByHour_2 F f (nI h) o (nI (i + 1)) s1 ∧ ∃ g1, s1 = wg S a g1 ∧ ∀ c, c < 120 → g1 c = S.2.1 a c * lN (zp (zhf z o h c) i * zhf z o h c i)
    rw [x2_weighByHour_2, tt_n, show (wg S a g).1 22 1 = nI (z_sn z) from hk.2.1.1, if_neg (nI_ge hi (by omega)), tt_rd (by omega) (by omega), x_win hz hk' hi, tt_cI, nI_1]
    have stay : (∀ c, zhf z o h c i = 1) → ∃ s1, x2_weighByHour_2 F f (nI h) o (nI (i + 1)) (wg S a g) = x2_weighByHour_2 F f (nI h) o (nI (i + 1)) s1 ∧ ∃ g1, s1 = wg S a g1 ∧ ∀ c, c < 120 → g1 c = S.2.1 a c * lN (zp (zhf z o h c) i * zhf z o h c i) := fun h1 => ⟨_, rfl, g, rfl, fun c hc => by rw [h1 c, Nat.mul_one]; exact hg c hc⟩
    cases q0 : zct z o i with
    | false =>
      rw [if_pos (zi_0 rfl)]
      exact stay (fun c => by unfold zhf; rw [q0]; rfl)
    | true =>
      rw [if_neg (zi_1 rfl), tt_on (sq_sg hz hi), x_bh hz hk' hi, tt_cI]
      by_cases q1 : z_sg z i 0 = 1 ∨ z_sg z i 0 = 2
      · rw [decide_eq_true q1, if_neg (zi_1 rfl), tt_n, show (wg S a g).1 (24 + i) 1 = nI (z_sg z i 1) from hk.2.1.2 i 1 hi (by omega)]
        by_cases q2 : z_sg z i 1 = h
        · rw [if_pos (show nI (z_sg z i 1) = nI h by rw [q2])]
          obtain ⟨g1, e1, h1⟩ := x_wbh53 (l1 := nI h) (l2 := o) (l3 := nI i) (S := wg S a g) (c2 := x2_weighByHour_2 F f) (wt := zwt (z_sg z i)) hF (sq_sg hz hi) ha hS (fun c hc S1 hS1 => k_xw hz (by rw [hS1]; exact hk) hi hc (fun q => by omega)) (fun c => zwt_le _ _)
          rw [e1, nI_1, wg_wg]
          refine ⟨_, rfl, g1, rfl, fun c hc => ?_⟩
          rw [h1 c hc, wg_s, hg c hc, show zhf z o h c i = zwt (z_sg z i) c by unfold zhf; rw [q0, if_pos rfl, if_pos q1, if_pos q2], ← lN_mul, Int64.mul_assoc]
        · rw [if_neg (show ¬ nI (z_sg z i 1) = nI h from fun p => q2 ((nI_eq (by omega) (by omega)).mp p))]
          exact stay (fun c => by unfold zhf; rw [q0, if_pos rfl, if_pos q1, if_neg q2])
      · rw [decide_eq_false q1, if_pos (zi_0 rfl)]
        exact stay (fun c => by unfold zhf; rw [q0, if_pos rfl, if_neg q1])
/-! what signs weigh at the last cell, for all cells at once -/
theorem x_wal58 {F t : Nat} {l1 l2 : Int32} {S : sm_t} {c10 : Int32 → Int32 → sm_t → Option sm_t} {wt : Nat → Nat} (hF : 1000 < F) (ht : sm_sq t = some (.inr 5)) (hw : ∀ c, c < 120 → ∀ S1 : sm_t, S1.1 = S.1 → x6_weight F t (nI c) S1 = some (nI (wt c), S1)) (hwt : ∀ c, wt c ≤ 12) : ∃ g, x2_weighAtLast_58 F c10 F l1 l2 t 0 S = c10 l1 (l2 + 1) (wg S 44 g) ∧ ∀ c, c < 120 → g c = S.2.1 44 c * lN (wt c) := by
  refine lp0 (fun f (s : sm_t) i => x2_weighAtLast_58 F c10 f l1 l2 t i s) 120 (fun i s => ∃ g, s = wg S 44 g ∧ ∀ c, c < 120 → g c = if c < i then S.2.1 44 c * lN (wt c) else S.2.1 44 c) (fun o => ∃ g, o = c10 l1 (l2 + 1) (wg S 44 g) ∧ ∀ c, c < 120 → g c = S.2.1 44 c * lN (wt c)) (f := F) (a := S) (by omega) ⟨_, wg_id.symm, fun k hk => by rw [if_neg (by omega)]⟩ (fun f s hs => ?_) (fun f i s hi hs => ?_)
  · obtain ⟨g, rfl, hg⟩ := hs
    refine ⟨g, ?_, fun c hc => by rw [hg c hc, if_pos hc]⟩
    change x2_weighAtLast_58 F c10 (f + 1) l1 l2 t 120 _ = _
    rw [x2_weighAtLast_58, if_pos (by decide)]
  · obtain ⟨g, rfl, hg⟩ := hs
    have gi : g i = S.2.1 44 i := by rw [hg i hi, if_neg (by omega)]
    refine Or.inr ⟨wg S 44 (vp_updL g i (S.2.1 44 i * lN (wt i))), ?_, _, rfl, fun d hd => ?_⟩
    · change x2_weighAtLast_58 F c10 (f + 1) l1 l2 t (nI i) (wg S 44 g) = x2_weighAtLast_58 F c10 f l1 l2 t (nI (i + 1)) _
      rw [x2_weighAtLast_58, if_neg (show ¬ (120 : Int32) ≤ nI i from nI_ge (b := 120) hi (by omega)), tt_rd hi (by omega), wg_s, gi, tt_on ht, hw i hi (wg S 44 g) rfl, tt_cI, tt_wl hi (by omega), wL_g, wg_wg, wg_s, nI_l (by have := hwt i; omega), nI_1]
    · by_cases p : d = i
      · rw [p, pk_uLs, if_pos (by omega)]
      · rw [pk_uLn p, hg d hd]
        by_cases p1 : d < i
        · rw [if_pos p1, if_pos (by omega)]
        · rw [if_neg p1, if_neg (by omega)]
theorem x_wal {F : Nat} {o : Int32} {z : zz} {S : sm_t} (hF : 1000 < F) (hz : zw z) (hk : xk z S.1) : ∃ g, x2_weighAtLast F o S = some (wg S 44 g) ∧ ∀ c, c < 120 → g c = lN (zA z o c) := by
  have hn := hz.2.2.2.2.1
  unfold x2_weighAtLast zA
  obtain ⟨g0, e0, hg0⟩ := x_fillJ (F := F) (v := 1) (S := S) (by omega) (show sm_sq 44 = some (.inl (.long, 120)) by decide) (by omega)
  rw [e0, tt_cV]
  refine lp0 (fun f (s : sm_t) i => x2_weighAtLast_10 F f o i s) (z_sn z) (fun i s => ∃ g, s = wg S 44 g ∧ ∀ c, c < 120 → g c = lN (zp (zaf z o c) i)) (fun r => ∃ g, r = some (wg S 44 g) ∧ ∀ c, c < 120 → g c = lN (zp (zaf z o c) (z_sn z))) (f := F) (a := wg S 44 g0) (by omega) ⟨g0, rfl, fun c hc => hg0 c hc⟩ (fun f s hs => ?_) (fun f i s hi hs => Or.inr ?_)
  · obtain ⟨g, rfl, hg⟩ := hs
    refine ⟨g, ?_, hg⟩
    change x2_weighAtLast_10 F (f + 1) o (nI (z_sn z)) _ = _
    rw [x2_weighAtLast_10, tt_n, show (wg S 44 g).1 22 1 = nI (z_sn z) from hk.2.1.1, if_pos (nI_le (by omega) (by omega))]
  · obtain ⟨g, rfl, hg⟩ := hs
    have hs := sg_lt hz hi
    have hk' : xk z (wg S 44 g).1 := hk
    change ∃ s1, x2_weighAtLast_10 F (f + 1) o (nI i) (wg S 44 g) = x2_weighAtLast_10 F f o (nI (i + 1)) s1 ∧ ∃ g1, s1 = wg S 44 g1 ∧ ∀ c, c < 120 → g1 c = lN (zp (zaf z o c) i * zaf z o c i)
    rw [x2_weighAtLast_10, tt_n, show (wg S 44 g).1 22 1 = nI (z_sn z) from hk.2.1.1, if_neg (nI_ge hi (by omega)), tt_rd (by omega) (by omega), x_win hz hk' hi, tt_cI, nI_1]
    have stay : (∀ c, zaf z o c i = 1) → ∃ s1, x2_weighAtLast_10 F f o (nI (i + 1)) (wg S 44 g) = x2_weighAtLast_10 F f o (nI (i + 1)) s1 ∧ ∃ g1, s1 = wg S 44 g1 ∧ ∀ c, c < 120 → g1 c = lN (zp (zaf z o c) i * zaf z o c i) := fun h1 => ⟨_, rfl, g, rfl, fun c hc => by rw [h1 c, Nat.mul_one]; exact hg c hc⟩
    cases q0 : zct z o i with
    | false =>
      rw [if_pos (zi_0 rfl)]
      exact stay (fun c => by unfold zaf; rw [q0]; rfl)
    | true =>
      rw [if_neg (zi_1 rfl), tt_on (sq_sg hz hi), tt_n, show (wg S 44 g).1 (24 + i) 0 = nI (z_sg z i 0) from hk.2.1.2 i 0 hi (by omega)]
      by_cases q3 : z_sg z i 0 = 3
      · rw [if_pos ((k3 hz hi).mpr q3)]
        exact stay (fun c => by unfold zaf; rw [q0, if_pos rfl, if_pos q3])
      · rw [if_neg (fun p => q3 ((k3 hz hi).mp p)), x_bh hz hk' hi, tt_cI]
        by_cases q1 : z_sg z i 0 = 1 ∨ z_sg z i 0 = 2
        · rw [decide_eq_true q1, if_neg (zi_1 rfl)]
          exact stay (fun c => by unfold zaf; rw [q0, if_pos rfl, if_neg q3, if_pos q1])
        · rw [decide_eq_false q1, if_pos (zi_0 rfl)]
          obtain ⟨g1, e1, h1⟩ := x_wal58 (l1 := o) (l2 := nI i) (S := wg S 44 g) (c10 := x2_weighAtLast_10 F f) (wt := zwt (z_sg z i)) hF (sq_sg hz hi) (fun c hc S1 hS1 => k_xw hz (by rw [hS1]; exact hk) hi hc (fun q => absurd q q3)) (fun c => zwt_le _ _)
          rw [e1, nI_1, wg_wg]
          refine ⟨_, rfl, g1, rfl, fun c hc => ?_⟩
          rw [h1 c hc, wg_s, hg c hc, show zaf z o c i = zwt (z_sg z i) c by unfold zaf; rw [q0, if_pos rfl, if_neg q3, if_neg q1], lN_mul]
theorem x_keep {F a c0 : Nat} {S : sm_t} (hF : 1000 < F) (ha : sm_sq a = some (.inl (.long, 120))) (hS : S.2.2.1 = a) (hc : c0 < 120) : ∃ g, x2_keepOnly F (nI c0) S = some (wg S a g) ∧ ∀ c, c < 120 → g c = if c ≠ c0 then 0 else S.2.1 a c := by
  unfold x2_keepOnly
  rw [tt_n, hS, tt_an ha, tt_rd hc (by omega), tt_n]
  obtain ⟨g, e, hg⟩ := x_fillJ (F := F) (v := 0) (S := S) (by omega) ha (by omega)
  rw [e, tt_cV, tt_n, wg_2, hS, tt_an ha, tt_wl hc (by omega), wL_g, wg_wg, wg_s]
  refine ⟨_, rfl, fun c hc => ?_⟩
  by_cases q : c = c0
  · rw [q, pk_uLs, if_neg (fun p => p rfl)]
  · rw [pk_uLn q, if_pos q]
    exact hg c hc
theorem lN_0 : lN 0 = 0 := rfl
theorem lz_s {f : Nat → Nat} : ∀ n, (∀ k, k < n → lN (f k) = 0) → lN (zs f n) = 0 := by
  intro n
  induction n with
  | zero => exact fun _ => rfl
  | succ n ih =>
    intro h
    rw [zs_s, ← lN_add, ih (fun k hk => h k (by omega)), h n (by omega)]
    rfl
theorem x_land {F h a : Nat} {o : Int32} {z : zz} {S : sm_t} {N : Nat → Nat} (hF : 1000 < F) (hz : zw z) (hk : xk z S.1) (hh : h ≤ z_ho z) (ha : sm_sq a = some (.inl (.long, 120))) (hS : S.2.2.1 = a) (ha40 : a ≠ 40) (hN : ∀ c, c < 120 → S.2.1 a c = lN (N c)) (hA : ∀ c, c < 120 → S.2.1 44 c = lN (zA z o c)) : ∃ g, x2_land F (nI h) o S = some (lN (zs (fun c => N c * zE z o h c) 120), wg S 40 g) ∧ ∀ c, c < 120 → g c = S.2.1 40 c + lN (N c * zE z o h c) := by
  unfold x2_land
  rw [x_byEnd hF hz hk hh, tt_cL]
  by_cases qB : lN (zB z o h) = 0
  · have z0 : ∀ c, lN (N c * zE z o h c) = 0 := fun c => by
      unfold zE
      rw [← lN_mul, ← lN_mul, qB, Int64.zero_mul, Int64.mul_zero]
    refine ⟨S.2.1 40, ?_, fun c hc => by rw [z0, Int64.add_zero]⟩
    have : ∀ f, 0 < f → x2_land_13 F f (lN (zB z o h)) 0 0 S = some (0, S) := by
      intro f hf
      obtain ⟨f, rfl⟩ : ∃ f0, f = f0 + 1 := ⟨f - 1, by omega⟩
      rw [x2_land_13, if_neg (by decide), if_pos qB]
    rw [this F (by omega), lz_s 120 (fun c _ => z0 c), wg_id]
  · refine lp0 (fun f (p : Int64 × sm_t) i => x2_land_13 F f (lN (zB z o h)) p.1 i p.2) 120 (fun i p => p.1 = lN (zs (fun c => N c * zE z o h c) i) ∧ ∃ g, p.2 = wg S 40 g ∧ ∀ c, c < 120 → g c = if c < i then S.2.1 40 c + lN (N c * zE z o h c) else S.2.1 40 c) (fun r => ∃ g, r = some (lN (zs (fun c => N c * zE z o h c) 120), wg S 40 g) ∧ ∀ c, c < 120 → g c = S.2.1 40 c + lN (N c * zE z o h c)) (f := F) (a := (0, S)) (by omega) ⟨rfl, _, wg_id.symm, fun c hc => by rw [if_neg (by omega)]⟩ (fun f p hp => ?_) (fun f i p hi hp => ?_)
    · obtain ⟨p1, p2⟩ := p
      obtain ⟨h1, g, h2, hg⟩ := hp
      change p1 = _ at h1
      change p2 = _ at h2
      subst h1 h2
      refine ⟨g, ?_, fun c hc => by rw [hg c hc, if_pos hc]⟩
      change x2_land_13 F (f + 1) (lN (zB z o h)) _ 120 _ = _
      rw [x2_land_13, if_pos (by decide)]
    · obtain ⟨p1, p2⟩ := p
      obtain ⟨h1, g, h2, hg⟩ := hp
      change p1 = _ at h1
      change p2 = _ at h2
      subst h1 h2
      have hk' : xk z (wg S 40 g).1 := hk
      have va : (wg S 40 g).2.1 a i = lN (N i) := by
        rw [wg_o ha40]
        exact hN i hi
      have vl : (wg S 40 g).2.1 44 i = lN (zA z o i) := by
        rw [wg_o (by omega)]
        exact hA i hi
      have gi : g i = S.2.1 40 i := by rw [hg i hi, if_neg (by omega)]
      have ev : (lN (N i) * lN (zB z o h)) * lN (zA z o i) = lN (N i * zE z o h i) := by
        unfold zE
        rw [lN_mul, lN_mul, Nat.mul_assoc]
      have e0 : x2_land_13 F (f + 1) (lN (zB z o h)) (lN (zs (fun c => N c * zE z o h c) i)) (nI i) (wg S 40 g) = if lN (N i) = 0 then x2_land_13 F f (lN (zB z o h)) (lN (zs (fun c => N c * zE z o h c) i)) (nI (i + 1)) (wg S 40 g) else x2_land_13 F f (lN (zB z o h)) (lN (zs (fun c => N c * zE z o h c) i) + lN (N i * zE z o h i)) (nI (i + 1)) (wg S 40 (vp_updL g i (S.2.1 40 i + lN (N i * zE z o h i)))) := by
        rw [x2_land_13, if_neg (show ¬ (120 : Int32) ≤ nI i from nI_ge (b := 120) hi (by omega)), if_neg qB, tt_n, tt_n, wg_2, hS, tt_an ha, tt_an ha, tt_r _ va hi (by omega), tt_r _ va hi (by omega), tt_r _ vl hi (by omega), tt_n, ev, tt_rd hi (by omega), wg_s, gi, tt_wl hi (by omega), wL_g, wg_wg, wg_s, tt_n, nI_1]
      have hn : ∀ g2 : Nat → Int64, (∀ d, d ≠ i → g2 d = g d) → g2 i = S.2.1 40 i + lN (N i * zE z o h i) → ∀ c, c < 120 → g2 c = if c < i + 1 then S.2.1 40 c + lN (N c * zE z o h c) else S.2.1 40 c := by
        intro g2 h1 h2 d hd
        by_cases p : d = i
        · rw [p, if_pos (by omega), h2]
        · rw [h1 d p, hg d hd]
          by_cases p1 : d < i
          · rw [if_pos p1, if_pos (by omega)]
          · rw [if_neg p1, if_neg (by omega)]
      by_cases q : lN (N i) = 0
      · have z0 : lN (N i * zE z o h i) = 0 := by rw [← lN_mul, q, Int64.zero_mul]
        refine Or.inr ⟨(_, _), e0.trans (if_pos q), ?_, g, rfl, hn g (fun d _ => rfl) (by rw [gi, z0, Int64.add_zero])⟩
        show _ = lN (zs (fun c => N c * zE z o h c) i + N i * zE z o h i)
        rw [← lN_add, z0, Int64.add_zero]
        rfl
      · refine Or.inr ⟨(_, _), e0.trans (if_neg q), ?_, _, rfl, hn _ (fun d hd => pk_uLn hd) pk_uLs⟩
        show _ = lN (zs (fun c => N c * zE z o h c) i + N i * zE z o h i)
        rw [← lN_add]
theorem up_ad {g : Nat → Int64} {v : Nat → Nat} {p k : Nat} {x : Int64} (hp : p < 120) (hx : x = lN k) (h : ∀ d, d < 120 → g d = lN (v d)) : ∀ d, d < 120 → vp_updL g p (g p + x) d = lN (ad v p k d) := by
  intro d hd
  unfold ad
  by_cases q : d = p
  · rw [q, pk_uLs, if_pos rfl, h p hp, hx, lN_add]
  · rw [pk_uLn q, if_neg q, h d hd]
theorem ad_z {v : Nat → Nat} {p k d : Nat} (hk : lN k = 0) : lN (ad v p k d) = lN (v d) := by
  unfold ad
  split
  · rw [← lN_add, hk, Int64.add_zero]
  · rfl
theorem l2_m (k : Nat) : (2 : Int64) * lN k = lN (2 * k) := lN_mul 2 k
theorem x_spread {F s a b : Nat} {S : sm_t} {N : Nat → Nat} (hF : 1000 < F) (hs : s < 8) (ha : sm_sq a = some (.inl (.long, 120))) (hb : sm_sq b = some (.inl (.long, 120))) (hab : a ≠ b) (hSa : S.2.2.1 = a) (hSb : S.2.2.2.1 = b) (hN : ∀ c, c < 120 → S.2.1 a c = lN (N c)) : ∃ g, x2_spread F (nI s) S = some (S.1, (wg S b g).2.1, b, a, S.2.2.2.2) ∧ ∀ c, c < 120 → g c = lN (zsp N s 120 c) := by
  unfold x2_spread
  rw [tt_n, hSb]
  obtain ⟨g0, e, hg0⟩ := x_fillJ (F := F) (v := 0) (S := S) (by omega) hb (by omega)
  rw [e, tt_cV]
  refine lp0 (fun f (p : sm_t) i => x2_spread_10 F f (nI s) i p) 120 (fun i p => ∃ g, p = wg S b g ∧ ∀ c, c < 120 → g c = lN (zsp N s i c)) (fun r => ∃ g, r = some (S.1, (wg S b g).2.1, b, a, S.2.2.2.2) ∧ ∀ c, c < 120 → g c = lN (zsp N s 120 c)) (f := F) (a := wg S b g0) (by omega) ⟨g0, rfl, hg0⟩ (fun f p hp => ?_) (fun f i p hi hp => ?_)
  · obtain ⟨g, rfl, hg⟩ := hp
    refine ⟨g, ?_, hg⟩
    change x2_spread_10 F (f + 1) (nI s) 120 _ = _
    rw [x2_spread_10, if_pos (by decide)]
    unfold x2_spread_102
    rw [tt_n, tt_n, tt_n, tt_n, wg_2, hSa, hSb]
    rfl
  · obtain ⟨g, rfl, hg⟩ := hp
    have h7 : (s + 7) % 8 < 8 := Nat.mod_lt _ (by omega)
    have h1 : (s + 1) % 8 < 8 := Nat.mod_lt _ (by omega)
    have g1 := zgo_lt hi hs
    have g2 := zgo_lt hi h7
    have g3 := zgo_lt hi h1
    have va : ∀ g' : Nat → Int64, (wg S b g').2.1 a i = lN (N i) := fun g' => by
      rw [wg_o hab]
      exact hN i hi
    by_cases q : lN (N i) = 0
    · refine Or.inr ⟨wg S b g, ?_, g, rfl, fun d hd => ?_⟩
      · change x2_spread_10 F (f + 1) (nI s) (nI i) _ = x2_spread_10 F f (nI s) (nI (i + 1)) _
        rw [x2_spread_10, if_neg (show ¬ (120 : Int32) ≤ nI i from nI_ge (b := 120) hi (by omega)), tt_n, wg_2, hSa, tt_an ha, tt_r _ (va g) hi (by omega), if_pos q, nI_1]
      · rw [hg d hd]
        show _ = lN (ad (ad (ad (zsp N s i) (zgo i s) (2 * N i)) (zgo i ((s + 7) % 8)) (N i)) (zgo i ((s + 1) % 8)) (N i) d)
        rw [ad_z q, ad_z q, ad_z (by rw [← l2_m, q, Int64.mul_zero])]
    · have u1 := up_ad (g := g) (v := zsp N s i) (p := zgo i s) (k := 2 * N i) (x := 2 * lN (N i)) g1 (l2_m _) hg
      have u2 := up_ad (p := zgo i ((s + 7) % 8)) (k := N i) (x := lN (N i)) g2 rfl u1
      have u3 := up_ad (p := zgo i ((s + 1) % 8)) (k := N i) (x := lN (N i)) g3 rfl u2
      refine Or.inr ⟨wg S b _, ?_, _, rfl, u3⟩
      change x2_spread_10 F (f + 1) (nI s) (nI i) _ = x2_spread_10 F f (nI s) (nI (i + 1)) _
      rw [x2_spread_10, if_neg (show ¬ (120 : Int32) ≤ nI i from nI_ge (b := 120) hi (by omega)), tt_n, wg_2, hSa, tt_an ha, tt_r _ (va g) hi (by omega), if_neg q, tt_n, hSb, x_gone hi hs, tt_cI, tt_an hb, tt_rd g1 (by omega), wg_s, tt_n, wg_2, hSa, tt_an ha, tt_r _ (va g) hi (by omega), tt_wl g1 (by omega), wL_g, wg_wg, wg_s, tt_n, wg_2, hSb, x_tuL hs, tt_cI, x_gone hi h7, tt_cI, tt_an hb, tt_rd g2 (by omega), wg_s, tt_n, wg_2, hSa, tt_an ha, tt_r _ (va _) hi (by omega), tt_wl g2 (by omega), wL_g, wg_wg, wg_s, tt_n, wg_2, hSb, x_tuR hs, tt_cI, x_gone hi h1, tt_cI, tt_an hb, tt_rd g3 (by omega), wg_s, tt_n, wg_2, hSa, tt_an ha, tt_r _ (va _) hi (by omega), tt_wl g3 (by omega), wL_g, wg_wg, wg_s, nI_1]
/-- how far the flight is weighed -/
def fI (z : zz) (o ah : Int32) (ac : Nat) (S : sm_t) (h : Nat) (l4 : Int64) (S1 : sm_t) : Prop := S1.1 = S.1 ∧ (∃ a b, (a = 42 ∧ b = 43 ∨ a = 43 ∧ b = 42) ∧ S1.2.2.1 = a ∧ S1.2.2.2.1 = b ∧ (h ≤ z_ho z → ∀ c, c < 120 → S1.2.1 a c = lN (zM z o ah ac h c))) ∧ (∀ c, c < 120 → S1.2.1 40 c = lN (zs (fun k => zL z o ah ac k c) h)) ∧ (∀ k, k < 7 → S1.2.1 41 k = if k < h then lN (zs (zL z o ah ac k) 120) else 0) ∧ (∀ q, ¬ (40 ≤ q ∧ q < 45) → S1.2.1 q = S.2.1 q) ∧ l4 = lN (zs (fun k => zs (zL z o ah ac k) 120) h)
theorem sq_42 : sm_sq 42 = some (.inl (.long, 120)) := by decide
theorem sq_43 : sm_sq 43 = some (.inl (.long, 120)) := by decide
theorem sq_ab {a : Nat} (h : a = 42 ∨ a = 43) : sm_sq a = some (.inl (.long, 120)) := by
  rcases h with rfl | rfl
  · exact sq_42
  · exact sq_43
theorem x_wf110 {F h : Nat} {o ah : Int32} {ac : Nat} {l3 : Int32} {z : zz} {S S2 : sm_t} {v : Int64} {a b : Nat} {c48 : Int32 → Int32 → Int32 → Int64 → Int32 → sm_t → Option (Int64 × sm_t)} (hF : 1000 < F) (hz : zw z) (hk : xk z S.1) (hh : h ≤ z_ho z) (hab : a = 42 ∧ b = 43 ∨ a = 43 ∧ b = 42) (h1 : S2.1 = S.1) (h2 : S2.2.2.1 = a) (h3 : S2.2.2.2.1 = b) (h4 : ∀ c, c < 120 → S2.2.1 a c = lN (zN z o ah ac h c)) (h5 : ∀ c, c < 120 → S2.2.1 40 c = lN (zs (fun k => zL z o ah ac k c) (h + 1))) (h6 : ∀ k, k < 7 → S2.2.1 41 k = if k < h + 1 then lN (zs (zL z o ah ac k) 120) else 0) (hA : ∀ c, c < 120 → S2.2.1 44 c = lN (zA z o c)) (h7 : ∀ q, ¬ (40 ≤ q ∧ q < 45) → S2.2.1 q = S.2.1 q) (h8 : v = lN (zs (fun k => zs (zL z o ah ac k) 120) (h + 1))) : ∃ S3, x2_weighFlight_110 F c48 o ah l3 v (nI h) S2 = c48 o ah l3 v (nI (h + 1)) S3 ∧ fI z o ah ac S (h + 1) v S3 ∧ (∀ c, c < 120 → S3.2.1 44 c = lN (zA z o c)) := by
  have h6' := hz.2.2.1.2.1
  unfold x2_weighFlight_110
  rw [tt_n, h1, hk.1.2.1, nI_1]
  by_cases q : z_ho z ≤ h
  · rw [if_pos (nI_le q (by omega))]
    exact ⟨S2, rfl, ⟨h1, ⟨a, b, hab, h2, h3, fun x => by omega⟩, h5, h6, h7, h8⟩, hA⟩
  · have hco := hz.2.2.1.2.2.1 h (by omega)
    obtain ⟨g, e, hg⟩ := x_spread (F := F) (S := S2) (N := zN z o ah ac h) hF hco (sq_ab (by omega)) (sq_ab (by omega)) (by omega) h2 h3 h4
    rw [if_neg (nI_ge (by omega) (by omega)), tt_r _ (hk.1.2.2.1 h (by omega)) (by omega) (by omega), e, tt_cV]
    refine ⟨_, rfl, ⟨h1, ⟨b, a, by omega, rfl, rfl, fun _ c hc => ?_⟩, fun c hc => ?_, fun k hk => ?_, fun q hq => ?_, h8⟩, fun c hc => ?_⟩
    · show (wg S2 b g).2.1 b c = _
      rw [wg_s]
      exact hg c hc
    · show (wg S2 b g).2.1 40 c = _
      rw [wg_o (by omega)]
      exact h5 c hc
    · show (wg S2 b g).2.1 41 k = _
      rw [wg_o (by omega)]
      exact h6 k hk
    · show (wg S2 b g).2.1 q = _
      rw [wg_o (by omega)]
      exact h7 q hq
    · show (wg S2 b g).2.1 44 c = _
      rw [wg_o (by omega)]
      exact hA c hc
theorem x_wf78 {F h : Nat} {o ah : Int32} {ac : Nat} {l3 : Int32} {z : zz} {S S2 : sm_t} {v : Int64} {a b : Nat} {c48 : Int32 → Int32 → Int32 → Int64 → Int32 → sm_t → Option (Int64 × sm_t)} (hF : 1000 < F) (hz : zw z) (hk : xk z S.1) (hh : h ≤ z_ho z) (hab : a = 42 ∧ b = 43 ∨ a = 43 ∧ b = 42) (h1 : S2.1 = S.1) (h2 : S2.2.2.1 = a) (h3 : S2.2.2.2.1 = b) (h4 : ∀ c, c < 120 → S2.2.1 a c = lN (zN z o ah ac h c)) (h5 : ∀ c, c < 120 → S2.2.1 40 c = lN (zs (fun k => zL z o ah ac k c) h)) (h6 : ∀ k, k < 7 → S2.2.1 41 k = if k < h then lN (zs (zL z o ah ac k) 120) else 0) (hA : ∀ c, c < 120 → S2.2.1 44 c = lN (zA z o c)) (h7 : ∀ q, ¬ (40 ≤ q ∧ q < 45) → S2.2.1 q = S.2.1 q) (h8 : v = lN (zs (fun k => zs (zL z o ah ac k) 120) h)) : ∃ v1 S3, x2_weighFlight_78 F c48 o ah l3 v (nI h) S2 = c48 o ah l3 v1 (nI (h + 1)) S3 ∧ fI z o ah ac S (h + 1) v1 S3 ∧ (∀ c, c < 120 → S3.2.1 44 c = lN (zA z o c)) := by
  have h6' := hz.2.2.1.2.1
  unfold x2_weighFlight_78
  by_cases q : nI h < ah
  · have zl : ∀ c, zL z o ah ac h c = 0 := fun c => if_pos q
    rw [if_pos q]
    obtain ⟨S3, e3, f3⟩ := x_wf110 (l3 := l3) (c48 := c48) hF hz hk hh hab h1 h2 h3 h4 (v := v) (fun c hc => by rw [h5 c hc, zs_s, zl, Nat.add_zero]) (fun k hk => by
      rw [h6 k hk]
      by_cases p : k < h
      · rw [if_pos p, if_pos (by omega)]
      · by_cases p1 : k = h
        · rw [if_neg p, if_pos (by omega), p1, zs_z 120 (fun c _ => zl c)]
          rfl
        · rw [if_neg p, if_neg (by omega)]) hA h7 (by rw [h8, zs_s, zs_z 120 (fun c _ => zl c), Nat.add_zero])
    exact ⟨v, S3, e3, f3⟩
  · have zl : ∀ c, zL z o ah ac h c = zN z o ah ac h c * zE z o h c := fun c => if_neg q
    rw [if_neg q]
    obtain ⟨g, e, hg⟩ := x_land (F := F) (S := S2) (o := o) (N := zN z o ah ac h) hF hz (by rw [h1]; exact hk) hh (sq_ab (by omega)) h2 (by omega) h4 hA
    rw [e, tt_cL, tt_wl (by omega) (by omega), tt_rd (by omega) (by omega), tt_4s, if_pos rfl, tt_n]
    have ez : (fun c => zN z o ah ac h c * zE z o h c) = zL z o ah ac h := funext fun c => (zl c).symm
    rw [ez]
    obtain ⟨S3, e3, f3⟩ := x_wf110 (l3 := l3) (c48 := c48) (S2 := sm_wL (wg S2 40 g) 41 h (lN (zs (zL z o ah ac h) 120))) hF hz hk hh hab h1 h2 h3 (fun c hc => by
      rw [tt_4 (by omega), wg_o (by omega)]
      exact h4 c hc) (v := v + lN (zs (zL z o ah ac h) 120)) (fun c hc => by
      rw [tt_4 (by omega), wg_s, hg c hc, h5 c hc, zs_s, ← zl c, lN_add]) (fun k hk => by
      rw [tt_4s, wg_o (by omega)]
      by_cases p1 : k = h
      · rw [if_pos p1, if_pos (by omega), p1]
      · rw [if_neg p1, h6 k hk]
        by_cases p : k < h
        · rw [if_pos p, if_pos (by omega)]
        · rw [if_neg p, if_neg (by omega)]) (fun c hc => by
      rw [tt_4 (by omega), wg_o (by omega)]
      exact hA c hc) (fun q hq => by
      rw [tt_4 (by omega), wg_o (by omega)]
      exact h7 q hq) (by rw [h8, lN_add]; rfl)
    exact ⟨_, S3, e3, f3⟩
theorem x_flight {F : Nat} {o ah l3 : Int32} {ac : Nat} {z : zz} {J S : sm_t} (hF : 1000 < F) (hz : zw z) (hx : xi z J S) (hl3 : ∀ h, h ≤ 6 → nI h = ah → l3 = nI ac ∧ ac < 120) : ∃ S1, x2_weighFlight F o ah l3 S = some (lN (zs (fun k => zs (zL z o ah ac k) 120) (z_ho z + 1)), S1) ∧ fI z o ah ac S (z_ho z + 1) (lN (zs (fun k => zs (zL z o ah ac k) 120) (z_ho z + 1))) S1 := by
  have h6' := hz.2.2.1.2.1
  have hce := hz.2.2.1.1
  have hk := xk_of hx
  have hp := hx.2.2.2.2.2.2.2.2.2
  unfold x2_weighFlight
  obtain ⟨g1, e1, hg1⟩ := x_fillJ (F := F) (v := 0) (S := S) (by omega) (show sm_sq 40 = some (.inl (.long, 120)) by decide) (by omega)
  obtain ⟨g2, e2, hg2⟩ := x_fillJ (F := F) (v := 0) (S := wg S 40 g1) (by omega) (show sm_sq 41 = some (.inl (.long, 7)) by decide) (by omega)
  rw [e1, tt_cV, e2, tt_cV, tt_n]
  obtain ⟨a, b, hab, ha, hb⟩ : ∃ a b, (a = 42 ∧ b = 43 ∨ a = 43 ∧ b = 42) ∧ S.2.2.1 = a ∧ S.2.2.2.1 = b := by
    rcases hp with ⟨p1, p2⟩ | ⟨p1, p2⟩
    · exact ⟨42, 43, Or.inl ⟨rfl, rfl⟩, p1, p2⟩
    · exact ⟨43, 42, Or.inr ⟨rfl, rfl⟩, p1, p2⟩
  have sa : sm_sq a = some (.inl (.long, 120)) := sq_ab (by omega)
  obtain ⟨g3, e3, hg3⟩ := x_fillJ (F := F) (v := 0) (S := wg (wg S 40 g1) 41 g2) (by omega) sa (by omega)
  rw [show (wg (wg S 40 g1) 41 g2).2.2.1 = a from ha, e3, tt_cV, tt_n, tt_n, show (wg (wg (wg S 40 g1) 41 g2) a g3).2.2.1 = a from ha, show (wg (wg (wg S 40 g1) 41 g2) a g3).1 19 0 = nI (z_ce z) from hk.1.1, tt_an sa, tt_wl hce (by omega), wL_g, wg_wg, wg_s]
  obtain ⟨g4, e4, hg4⟩ := x_wal (F := F) (o := o) (S := wg (wg (wg S 40 g1) 41 g2) a (vp_updL g3 (z_ce z) 1)) hF hz hk
  rw [e4, tt_cV]
  have hI : fI z o ah ac S 0 0 (wg (wg (wg (wg S 40 g1) 41 g2) a (vp_updL g3 (z_ce z) 1)) 44 g4) ∧ (∀ c, c < 120 → (wg (wg (wg (wg S 40 g1) 41 g2) a (vp_updL g3 (z_ce z) 1)) 44 g4).2.1 44 c = lN (zA z o c)) := by
    refine ⟨⟨rfl, ⟨a, b, hab, ha, hb, fun _ c hc => ?_⟩, fun c hc => ?_, fun k hk => ?_, fun q hq => ?_, rfl⟩, fun c hc => ?_⟩
    · rw [wg_o (by omega), wg_s]
      show _ = lN (if c = z_ce z then 1 else 0)
      by_cases q : c = z_ce z
      · rw [q, pk_uLs, if_pos rfl]
        rfl
      · rw [pk_uLn q, if_neg q, hg3 c hc]
        rfl
    · rw [wg_o (by omega), wg_o (by omega), wg_o (by omega), wg_s, hg1 c hc]
      rfl
    · rw [wg_o (by omega), wg_o (by omega), wg_s, if_neg (by omega), hg2 k hk]
    · rw [wg_o (by omega), wg_o (by omega), wg_o (by omega), wg_o (by omega)]
    · rw [wg_s]
      exact hg4 c hc
  refine lp0 (fun f (p : Int64 × sm_t) i => x2_weighFlight_48 F f o ah l3 p.1 i p.2) (z_ho z + 1) (fun i p => fI z o ah ac S i p.1 p.2 ∧ (∀ c, c < 120 → p.2.2.1 44 c = lN (zA z o c))) (fun r => ∃ S1, r = some (lN (zs (fun k => zs (zL z o ah ac k) 120) (z_ho z + 1)), S1) ∧ fI z o ah ac S (z_ho z + 1) (lN (zs (fun k => zs (zL z o ah ac k) 120) (z_ho z + 1))) S1) (f := F) (a := (0, wg (wg (wg (wg S 40 g1) 41 g2) a (vp_updL g3 (z_ce z) 1)) 44 g4)) (by omega) hI (fun f p hp => ?_) (fun f h p hh hp => Or.inr ?_)
  · obtain ⟨p1, p2⟩ := p
    have h8 : p1 = _ := hp.1.2.2.2.2.2
    subst h8
    refine ⟨p2, ?_, hp.1⟩
    change x2_weighFlight_48 F (f + 1) o ah l3 _ (nI (z_ho z + 1)) p2 = _
    rw [x2_weighFlight_48, tt_n, show p2.1 = S.1 from hp.1.1, hk.1.2.1, if_pos (nI_lt (by omega) (by omega))]
  · obtain ⟨p1, p2⟩ := p
    obtain ⟨⟨i1, ⟨a, b, hab, ha, hb, i2⟩, i3, i4, i5, i6⟩, i7⟩ := hp
    change ∀ c, c < 120 → p2.2.1 44 c = lN (zA z o c) at i7
    change p2.1 = S.1 at i1
    change p2.2.2.1 = a at ha
    change p2.2.2.2.1 = b at hb
    have i2' : ∀ c, c < 120 → p2.2.1 a c = lN (zM z o ah ac h c) := i2 (by omega)
    have sa : sm_sq a = some (.inl (.long, 120)) := sq_ab (by omega)
    obtain ⟨g, e, hg⟩ := x_wbh (F := F) (S := p2) (o := o) (h := h) hF hz (by rw [i1]; exact hk) (by omega) sa ha
    change ∃ a' : Int64 × sm_t, x2_weighFlight_48 F (f + 1) o ah l3 p1 (nI h) p2 = x2_weighFlight_48 F f o ah l3 a'.1 (nI (h + 1)) a'.2 ∧ fI z o ah ac S (h + 1) a'.1 a'.2 ∧ (∀ c, c < 120 → a'.2.2.1 44 c = lN (zA z o c))
    rw [x2_weighFlight_48, tt_n, show p2.1 = S.1 from i1, hk.1.2.1, if_neg (nI_nlt (show h ≤ z_ho z by omega) (by omega)), e, tt_cV]
    by_cases q : nI h = ah
    · obtain ⟨rfl, hac⟩ := hl3 h (by omega) q
      obtain ⟨g2, e2, hg2⟩ := x_keep (F := F) (S := wg p2 a g) hF sa ha hac
      rw [if_pos q, e2, tt_cV, wg_wg]
      obtain ⟨v1, S3, e4, f4⟩ := x_wf78 (l3 := nI ac) (c48 := x2_weighFlight_48 F f) (S2 := wg p2 a g2) (v := p1) hF hz hk (show h ≤ z_ho z by omega) hab i1 ha hb (fun c hc => by
        rw [wg_s, hg2 c hc]
        unfold zN
        by_cases qc : c = ac
        · rw [if_neg (fun p => p qc), if_neg (fun p => p.2 qc), wg_s, hg c hc, i2' c hc, lN_mul]
        · rw [if_pos qc, if_pos ⟨q, qc⟩]
          rfl) (fun c hc => by rw [wg_o (by omega)]; exact i3 c hc) (fun k hk => by rw [wg_o (by omega)]; exact i4 k hk) (fun c hc => by rw [wg_o (by omega)]; exact i7 c hc) (fun q hq => by rw [wg_o (by omega)]; exact i5 q hq) i6
      exact ⟨(v1, S3), e4, f4⟩
    · rw [if_neg q]
      obtain ⟨v1, S3, e4, f4⟩ := x_wf78 (l3 := l3) (c48 := x2_weighFlight_48 F f) (S2 := wg p2 a g) (v := p1) hF hz hk (show h ≤ z_ho z by omega) hab i1 ha hb (fun c hc => by
        rw [wg_s, hg c hc, i2' c hc, lN_mul]
        unfold zN
        rw [if_neg (fun p => q p.1)]) (fun c hc => by rw [wg_o (by omega)]; exact i3 c hc) (fun k hk => by rw [wg_o (by omega)]; exact i4 k hk) (fun c hc => by rw [wg_o (by omega)]; exact i7 c hc) (fun q hq => by rw [wg_o (by omega)]; exact i5 q hq) i6
      exact ⟨(v1, S3), e4, f4⟩
