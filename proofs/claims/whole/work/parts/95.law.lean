/-! ===== the law, arm by arm ===== -/
def lw_F : Nat := 1000000
/-- what holds between two orders -/
def li (xs : Nat → Int32) (S : sm_t) : Prop := ∃ z, zw z ∧ xi z S S ∧ mi z S S ∧ S.1 2 = xs
theorem rd_ok {α ρ : Type} {f : Nat → α} {n : Nat} {i : Int32} {K : α → Option ρ} (h : sm_ix i n = true) : sm_rd f n i K = K (f i.toNatClampNeg) := if_pos h
theorem mi_mv {z : zz} {J S T : sm_t} (h : mi z J S) (e : ∀ b, 52 ≤ b → T.1 b = S.1 b ∧ T.2.1 b = S.2.1 b) : mi z T T := by
  obtain ⟨-, a1, a2, a3, a4, a5, a6, a7, a8, a9⟩ := h
  refine ⟨⟨fun _ _ => ⟨rfl, rfl⟩, rfl⟩, ?_, ?_, ?_, ?_, ?_, ?_, ?_, ?_, ?_⟩
  · rw [(e 54 (by omega)).1]; exact a1
  · rw [(e 55 (by omega)).1]; exact a2
  · rw [(e 57 (by omega)).1]; exact a3
  · rw [(e 58 (by omega)).1]; exact a4
  · rw [(e 59 (by omega)).1]; exact a5
  · rw [(e 60 (by omega)).1, (e 61 (by omega)).1]; exact a6
  · rw [(e 52 (by omega)).1, (e 63 (by omega)).1]; exact a7
  · rw [(e 52 (by omega)).1, (e 52 (by omega)).2, (e 53 (by omega)).1]; exact a8
  · rw [(e 52 (by omega)).1]; exact a9
theorem xi_mv {z : zz} {J S T : sm_t} (hz : zw z) (h : xi z J S) (e : ∀ b, b < 52 → T.1 b = S.1 b ∧ T.2.1 b = S.2.1 b) (e2 : T.2.2 = S.2.2) : xi z T T := by
  obtain ⟨-, a1, a2, a3, a4, a5, a6, a7, a8, a9⟩ := h
  refine ⟨fun _ _ => ⟨rfl, rfl⟩, ?_, ?_, ?_, ?_, ?_, ?_, ?_, ?_, ?_⟩
  · rw [(e 11 (by omega)).1]; exact a1
  · intro r k hr hk; rw [(e (5 + r) (by omega)).1]; exact a2 r k hr hk
  · rw [(e 17 (by omega)).1]; exact a3
  · intro r k hr hk; rw [(e (13 + r) (by omega)).1]; exact a4 r k hr hk
  · rw [(e 19 (by omega)).1, (e 20 (by omega)).1, (e 21 (by omega)).1]; exact a5
  · intro k hk; rw [(e 45 (by omega)).1, (e (37 + k) (by omega)).1]; exact a6 k hk
  · refine ⟨by rw [(e 22 (by omega)).1]; exact a7.1, fun n i hn h5 => ?_⟩
    have := hz.2.2.2.2.1
    rw [(e (24 + n) (by omega)).1]; exact a7.2 n i hn h5
  · rw [(e 3 (by omega)).1, (e 3 (by omega)).2, (e 51 (by omega)).1]; exact a8
  · rw [e2]; exact a9
theorem ls_I {xs : Nat → Int32} {S : sm_t} {f7 f8 : sm_t → Option (Int32 × sm_t)} (hI : li xs S) (h : ∀ (z : zz) (J K T : sm_t), zw z → xi z J S → mi z K T → bt J K (f7 S) (f8 T)) : ∃ (v : Int32) (S1 T1 : sm_t), f7 S = some (v, S1) ∧ f8 S1 = some (v, T1) ∧ S1.1 2 = S.1 2 ∧ li xs T1 := by
  obtain ⟨z, hz, hx, hm, e⟩ := hI
  obtain ⟨v, z1, S1, T1, a1, a2, a3, a4, a5⟩ := h z S S S hz hx hm
  have hm' : mi z S1 S1 := mi_mv hm (fun b hb => a4.1 b (Or.inr hb))
  obtain ⟨v2, z2, S2, T2, b1, b2, b3, b4, b5⟩ := h z S S1 S1 hz hx hm'
  rw [a1] at b1
  cases b1
  have e1 : S1.1 2 = S.1 2 := (a4.1 2 (Or.inl (by omega))).1
  exact ⟨v, S1, T2, a1, b2, e1, z2, b3, xi_mv b3 b4 (fun b hb => b5.1.1 b hb) b5.1.2, mi_mv b5 (fun _ _ => ⟨rfl, rfl⟩), by rw [(b5.1.1 2 (by omega)).1, e1, e]⟩
theorem ls_L {xs : Nat → Int32} {S : sm_t} {f7 f8 : sm_t → Option (Int64 × sm_t)} (hI : li xs S) (h : ∀ (z : zz) (J K T : sm_t), zw z → xi z J S → mi z K T → bl J K (f7 S) (f8 T)) : ∃ (v : Int64) (S1 T1 : sm_t), f7 S = some (v, S1) ∧ f8 S1 = some (v, T1) ∧ S1.1 2 = S.1 2 ∧ li xs T1 := by
  obtain ⟨z, hz, hx, hm, e⟩ := hI
  obtain ⟨v, z1, S1, T1, a1, a2, a3, a4, a5⟩ := h z S S S hz hx hm
  have hm' : mi z S1 S1 := mi_mv hm (fun b hb => a4.1 b (Or.inr hb))
  obtain ⟨v2, z2, S2, T2, b1, b2, b3, b4, b5⟩ := h z S S1 S1 hz hx hm'
  rw [a1] at b1
  cases b1
  have e1 : S1.1 2 = S.1 2 := (a4.1 2 (Or.inl (by omega))).1
  exact ⟨v, S1, T2, a1, b2, e1, z2, b3, xi_mv b3 b4 (fun b hb => b5.1.1 b hb) b5.1.2, mi_mv b5 (fun _ _ => ⟨rfl, rfl⟩), by rw [(b5.1.1 2 (by omega)).1, e1, e]⟩
theorem lw_c0 {N i : Nat} (hN : N ≤ 3072) (hi : i ≤ N) (h : N < i + 6) : Int32.ofNat N - 6 < nI i := by
  rw [tt_lt, tt_nI (by omega), Int32.toInt_sub, show (Int32.ofNat N).toInt = (N : Int) from tt_nI (n := N) (by omega), show (6 : Int32).toInt = 6 from rfl, Int.bmod_eq_of_le (by omega) (by omega)]
  omega
theorem lw_c1 {N i : Nat} (hN : N ≤ 3072) (hi : i ≤ N) (h : ¬ N < i + 6) : ¬ Int32.ofNat N - 6 < nI i := by
  rw [tt_lt, tt_nI (by omega), Int32.toInt_sub, show (Int32.ofNat N).toInt = (N : Int) from tt_nI (n := N) (by omega), show (6 : Int32).toInt = 6 from rfl, Int.bmod_eq_of_le (by omega) (by omega)]
  omega
theorem lw_ix {N i k : Nat} (hN : N ≤ 3072) (h : i + k < N) : sm_ix (nI i + nI k) N = true := by
  rw [show nI i + nI k = nI (i + k) from nI_add i k]
  exact tt_ixI h (by omega)
theorem lw_vk {v : Int32} (h : ¬ (v < 0 ∨ 45 < v)) : ∃ k : Nat, k < 46 ∧ v = nI k := by
  have h1 : ¬ v < 0 := fun q => h (Or.inl q)
  have h2 : ¬ 45 < v := fun q => h (Or.inr q)
  rw [tt_lt, show (0 : Int32).toInt = 0 from rfl] at h1
  rw [tt_lt, show (45 : Int32).toInt = 45 from rfl] at h2
  refine ⟨v.toInt.toNat, by omega, ?_⟩
  rw [tt_eq, tt_nI (by omega)]
  omega
theorem lo_digest {F N : Nat} {c18 : Int32 → sm_t → Option (Int32 × sm_t)} {l3 : Int32} {S : sm_t} {xs : Nat → Int32} (hF : 100000 < F ∧ F < 2147483648) (h1 : sm_ix (l3 + 1) N = true) (h2 : sm_ix (l3 + 2) N = true) (h3 : sm_ix (l3 + 3) N = true) (h4 : sm_ix (l3 + 4) N = true) (h5 : sm_ix (l3 + 5) N = true) (hI : li xs S) (hc : ∀ T : sm_t, li xs T → ∃ S' : sm_t, c18 (l3 + 6) T = some (1, S')) : ∃ S' : sm_t, xL_law_1609 F N c18 l3 S = some (1, S') := by
  obtain ⟨v, S1, T1, e7, e8, e2, hI1⟩ := ls_L (f7 := x7_digest F ) (f8 := x8_digest F ) hI (fun z J K T hz hx hm => q_digest hz hx hm (by omega) )
  unfold xL_law_1609
  rw [e7, tt_cL, e8, tt_cL, if_pos rfl]
  exact hc T1 hI1
theorem lo_findings {F N : Nat} {c18 : Int32 → sm_t → Option (Int32 × sm_t)} {l3 : Int32} {S : sm_t} {xs : Nat → Int32} (hF : 100000 < F ∧ F < 2147483648) (h1 : sm_ix (l3 + 1) N = true) (h2 : sm_ix (l3 + 2) N = true) (h3 : sm_ix (l3 + 3) N = true) (h4 : sm_ix (l3 + 4) N = true) (h5 : sm_ix (l3 + 5) N = true) (hI : li xs S) (hc : ∀ T : sm_t, li xs T → ∃ S' : sm_t, c18 (l3 + 6) T = some (1, S')) : ∃ S' : sm_t, xL_law_1586 F N c18 l3 S = some (1, S') := by
  obtain ⟨v, S1, T1, e7, e8, e2, hI1⟩ := ls_I (f7 := x7_findings F (S.1 2 (l3 + 1).toNatClampNeg)) (f8 := x8_findings F (S.1 2 (l3 + 1).toNatClampNeg)) hI (fun z J K T hz hx hm => q_findings hz hx hm _)
  unfold xL_law_1586
  rw [rd_ok h1, e7, tt_cI, e2, rd_ok h1, e8, tt_cI, if_pos rfl]
  exact hc T1 hI1
theorem lo_finding {F N : Nat} {c18 : Int32 → sm_t → Option (Int32 × sm_t)} {l3 : Int32} {S : sm_t} {xs : Nat → Int32} (hF : 100000 < F ∧ F < 2147483648) (h1 : sm_ix (l3 + 1) N = true) (h2 : sm_ix (l3 + 2) N = true) (h3 : sm_ix (l3 + 3) N = true) (h4 : sm_ix (l3 + 4) N = true) (h5 : sm_ix (l3 + 5) N = true) (hI : li xs S) (hc : ∀ T : sm_t, li xs T → ∃ S' : sm_t, c18 (l3 + 6) T = some (1, S')) : ∃ S' : sm_t, xL_law_1573 F N c18 l3 S = some (1, S') := by
  obtain ⟨v, S1, T1, e7, e8, e2, hI1⟩ := ls_I (f7 := x7_finding F ) (f8 := x8_finding F ) hI (fun z J K T hz hx hm => q_finding hz hx hm )
  unfold xL_law_1573
  rw [e7, tt_cI, e8, tt_cI, if_pos rfl]
  exact hc T1 hI1
theorem lo_count {F N : Nat} {c18 : Int32 → sm_t → Option (Int32 × sm_t)} {l3 : Int32} {S : sm_t} {xs : Nat → Int32} (hF : 100000 < F ∧ F < 2147483648) (h1 : sm_ix (l3 + 1) N = true) (h2 : sm_ix (l3 + 2) N = true) (h3 : sm_ix (l3 + 3) N = true) (h4 : sm_ix (l3 + 4) N = true) (h5 : sm_ix (l3 + 5) N = true) (hI : li xs S) (hc : ∀ T : sm_t, li xs T → ∃ S' : sm_t, c18 (l3 + 6) T = some (1, S')) : ∃ S' : sm_t, xL_law_1550 F N c18 l3 S = some (1, S') := by
  obtain ⟨v, S1, T1, e7, e8, e2, hI1⟩ := ls_I (f7 := x7_count F (S.1 2 (l3 + 1).toNatClampNeg)) (f8 := x8_count F (S.1 2 (l3 + 1).toNatClampNeg)) hI (fun z J K T hz hx hm => q_count hz hx hm (by omega) _)
  unfold xL_law_1550
  rw [rd_ok h1, e7, tt_cI, e2, rd_ok h1, e8, tt_cI, if_pos rfl]
  exact hc T1 hI1
theorem lo_lower {F N : Nat} {c18 : Int32 → sm_t → Option (Int32 × sm_t)} {l3 : Int32} {S : sm_t} {xs : Nat → Int32} (hF : 100000 < F ∧ F < 2147483648) (h1 : sm_ix (l3 + 1) N = true) (h2 : sm_ix (l3 + 2) N = true) (h3 : sm_ix (l3 + 3) N = true) (h4 : sm_ix (l3 + 4) N = true) (h5 : sm_ix (l3 + 5) N = true) (hI : li xs S) (hc : ∀ T : sm_t, li xs T → ∃ S' : sm_t, c18 (l3 + 6) T = some (1, S')) : ∃ S' : sm_t, xL_law_1536 F N c18 l3 S = some (1, S') := by
  obtain ⟨v, S1, T1, e7, e8, e2, hI1⟩ := ls_L (f7 := x7_lower F ) (f8 := x8_lower F ) hI (fun z J K T hz hx hm => q_lower hz hx hm )
  unfold xL_law_1536
  rw [e7, tt_cL, e8, tt_cL, if_pos rfl]
  exact hc T1 hI1
theorem lo_upper {F N : Nat} {c18 : Int32 → sm_t → Option (Int32 × sm_t)} {l3 : Int32} {S : sm_t} {xs : Nat → Int32} (hF : 100000 < F ∧ F < 2147483648) (h1 : sm_ix (l3 + 1) N = true) (h2 : sm_ix (l3 + 2) N = true) (h3 : sm_ix (l3 + 3) N = true) (h4 : sm_ix (l3 + 4) N = true) (h5 : sm_ix (l3 + 5) N = true) (hI : li xs S) (hc : ∀ T : sm_t, li xs T → ∃ S' : sm_t, c18 (l3 + 6) T = some (1, S')) : ∃ S' : sm_t, xL_law_1522 F N c18 l3 S = some (1, S') := by
  obtain ⟨v, S1, T1, e7, e8, e2, hI1⟩ := ls_L (f7 := x7_upper F ) (f8 := x8_upper F ) hI (fun z J K T hz hx hm => q_upper hz hx hm )
  unfold xL_law_1522
  rw [e7, tt_cL, e8, tt_cL, if_pos rfl]
  exact hc T1 hI1
theorem lo_asked {F N : Nat} {c18 : Int32 → sm_t → Option (Int32 × sm_t)} {l3 : Int32} {S : sm_t} {xs : Nat → Int32} (hF : 100000 < F ∧ F < 2147483648) (h1 : sm_ix (l3 + 1) N = true) (h2 : sm_ix (l3 + 2) N = true) (h3 : sm_ix (l3 + 3) N = true) (h4 : sm_ix (l3 + 4) N = true) (h5 : sm_ix (l3 + 5) N = true) (hI : li xs S) (hc : ∀ T : sm_t, li xs T → ∃ S' : sm_t, c18 (l3 + 6) T = some (1, S')) : ∃ S' : sm_t, xL_law_1509 F N c18 l3 S = some (1, S') := by
  obtain ⟨v, S1, T1, e7, e8, e2, hI1⟩ := ls_I (f7 := x7_asked F ) (f8 := x8_asked F ) hI (fun z J K T hz hx hm => q_asked hz hx hm )
  unfold xL_law_1509
  rw [e7, tt_cI, e8, tt_cI, if_pos rfl]
  exact hc T1 hI1
theorem lo_on {F N : Nat} {c18 : Int32 → sm_t → Option (Int32 × sm_t)} {l3 : Int32} {S : sm_t} {xs : Nat → Int32} (hF : 100000 < F ∧ F < 2147483648) (h1 : sm_ix (l3 + 1) N = true) (h2 : sm_ix (l3 + 2) N = true) (h3 : sm_ix (l3 + 3) N = true) (h4 : sm_ix (l3 + 4) N = true) (h5 : sm_ix (l3 + 5) N = true) (hI : li xs S) (hc : ∀ T : sm_t, li xs T → ∃ S' : sm_t, c18 (l3 + 6) T = some (1, S')) : ∃ S' : sm_t, xL_law_1486 F N c18 l3 S = some (1, S') := by
  obtain ⟨v, S1, T1, e7, e8, e2, hI1⟩ := ls_I (f7 := x7_on F (S.1 2 (l3 + 1).toNatClampNeg)) (f8 := x8_on F (S.1 2 (l3 + 1).toNatClampNeg)) hI (fun z J K T hz hx hm => q_on hz hx hm (by omega) _)
  unfold xL_law_1486
  rw [rd_ok h1, e7, tt_cI, e2, rd_ok h1, e8, tt_cI, if_pos rfl]
  exact hc T1 hI1
theorem lo_image {F N : Nat} {c18 : Int32 → sm_t → Option (Int32 × sm_t)} {l3 : Int32} {S : sm_t} {xs : Nat → Int32} (hF : 100000 < F ∧ F < 2147483648) (h1 : sm_ix (l3 + 1) N = true) (h2 : sm_ix (l3 + 2) N = true) (h3 : sm_ix (l3 + 3) N = true) (h4 : sm_ix (l3 + 4) N = true) (h5 : sm_ix (l3 + 5) N = true) (hI : li xs S) (hc : ∀ T : sm_t, li xs T → ∃ S' : sm_t, c18 (l3 + 6) T = some (1, S')) : ∃ S' : sm_t, xL_law_1463 F N c18 l3 S = some (1, S') := by
  obtain ⟨v, S1, T1, e7, e8, e2, hI1⟩ := ls_I (f7 := x7_image F (S.1 2 (l3 + 1).toNatClampNeg)) (f8 := x8_image F (S.1 2 (l3 + 1).toNatClampNeg)) hI (fun z J K T hz hx hm => q_image hz hx hm ⟨by omega, by omega⟩ _)
  unfold xL_law_1463
  rw [rd_ok h1, e7, tt_cI, e2, rd_ok h1, e8, tt_cI, if_pos rfl]
  exact hc T1 hI1
theorem lo_draw {F N : Nat} {c18 : Int32 → sm_t → Option (Int32 × sm_t)} {l3 : Int32} {S : sm_t} {xs : Nat → Int32} (hF : 100000 < F ∧ F < 2147483648) (h1 : sm_ix (l3 + 1) N = true) (h2 : sm_ix (l3 + 2) N = true) (h3 : sm_ix (l3 + 3) N = true) (h4 : sm_ix (l3 + 4) N = true) (h5 : sm_ix (l3 + 5) N = true) (hI : li xs S) (hc : ∀ T : sm_t, li xs T → ∃ S' : sm_t, c18 (l3 + 6) T = some (1, S')) : ∃ S' : sm_t, xL_law_1430 F N c18 l3 S = some (1, S') := by
  obtain ⟨v, S1, T1, e7, e8, e2, hI1⟩ := ls_I (f7 := x7_draw F (S.1 2 (l3 + 1).toNatClampNeg) (S.1 2 (l3 + 2).toNatClampNeg)) (f8 := x8_draw F (S.1 2 (l3 + 1).toNatClampNeg) (S.1 2 (l3 + 2).toNatClampNeg)) hI (fun z J K T hz hx hm => q_draw hz hx hm ⟨by omega, by omega⟩ _ _)
  unfold xL_law_1430
  rw [rd_ok h1, rd_ok h2, e7, tt_cI, e2, rd_ok h1, rd_ok h2, e8, tt_cI, if_pos rfl]
  exact hc T1 hI1
theorem lo_brought {F N : Nat} {c18 : Int32 → sm_t → Option (Int32 × sm_t)} {l3 : Int32} {S : sm_t} {xs : Nat → Int32} (hF : 100000 < F ∧ F < 2147483648) (h1 : sm_ix (l3 + 1) N = true) (h2 : sm_ix (l3 + 2) N = true) (h3 : sm_ix (l3 + 3) N = true) (h4 : sm_ix (l3 + 4) N = true) (h5 : sm_ix (l3 + 5) N = true) (hI : li xs S) (hc : ∀ T : sm_t, li xs T → ∃ S' : sm_t, c18 (l3 + 6) T = some (1, S')) : ∃ S' : sm_t, xL_law_1397 F N c18 l3 S = some (1, S') := by
  obtain ⟨v, S1, T1, e7, e8, e2, hI1⟩ := ls_I (f7 := x7_brought F (S.1 2 (l3 + 1).toNatClampNeg) (S.1 2 (l3 + 2).toNatClampNeg)) (f8 := x8_brought F (S.1 2 (l3 + 1).toNatClampNeg) (S.1 2 (l3 + 2).toNatClampNeg)) hI (fun z J K T hz hx hm => q_brought hz hx hm (by omega) _ _)
  unfold xL_law_1397
  rw [rd_ok h1, rd_ok h2, e7, tt_cI, e2, rd_ok h1, rd_ok h2, e8, tt_cI, if_pos rfl]
  exact hc T1 hI1
theorem lo_drag {F N : Nat} {c18 : Int32 → sm_t → Option (Int32 × sm_t)} {l3 : Int32} {S : sm_t} {xs : Nat → Int32} (hF : 100000 < F ∧ F < 2147483648) (h1 : sm_ix (l3 + 1) N = true) (h2 : sm_ix (l3 + 2) N = true) (h3 : sm_ix (l3 + 3) N = true) (h4 : sm_ix (l3 + 4) N = true) (h5 : sm_ix (l3 + 5) N = true) (hI : li xs S) (hc : ∀ T : sm_t, li xs T → ∃ S' : sm_t, c18 (l3 + 6) T = some (1, S')) : ∃ S' : sm_t, xL_law_1344 F N c18 l3 S = some (1, S') := by
  obtain ⟨v, S1, T1, e7, e8, e2, hI1⟩ := ls_I (f7 := x7_drag F (S.1 2 (l3 + 1).toNatClampNeg) (S.1 2 (l3 + 2).toNatClampNeg) (S.1 2 (l3 + 3).toNatClampNeg) (S.1 2 (l3 + 4).toNatClampNeg)) (f8 := x8_drag F (S.1 2 (l3 + 1).toNatClampNeg) (S.1 2 (l3 + 2).toNatClampNeg) (S.1 2 (l3 + 3).toNatClampNeg) (S.1 2 (l3 + 4).toNatClampNeg)) hI (fun z J K T hz hx hm => q_drag hz hx hm ⟨by omega, by omega⟩ _ _ _ _)
  unfold xL_law_1344
  rw [rd_ok h1, rd_ok h2, rd_ok h3, rd_ok h4, e7, tt_cI, e2, rd_ok h1, rd_ok h2, rd_ok h3, rd_ok h4, e8, tt_cI, if_pos rfl]
  exact hc T1 hI1
theorem lo_line {F N : Nat} {c18 : Int32 → sm_t → Option (Int32 × sm_t)} {l3 : Int32} {S : sm_t} {xs : Nat → Int32} (hF : 100000 < F ∧ F < 2147483648) (h1 : sm_ix (l3 + 1) N = true) (h2 : sm_ix (l3 + 2) N = true) (h3 : sm_ix (l3 + 3) N = true) (h4 : sm_ix (l3 + 4) N = true) (h5 : sm_ix (l3 + 5) N = true) (hI : li xs S) (hc : ∀ T : sm_t, li xs T → ∃ S' : sm_t, c18 (l3 + 6) T = some (1, S')) : ∃ S' : sm_t, xL_law_1301 F N c18 l3 S = some (1, S') := by
  obtain ⟨v, S1, T1, e7, e8, e2, hI1⟩ := ls_I (f7 := x7_line F (S.1 2 (l3 + 1).toNatClampNeg) (S.1 2 (l3 + 2).toNatClampNeg) (S.1 2 (l3 + 3).toNatClampNeg)) (f8 := x8_line F (S.1 2 (l3 + 1).toNatClampNeg) (S.1 2 (l3 + 2).toNatClampNeg) (S.1 2 (l3 + 3).toNatClampNeg)) hI (fun z J K T hz hx hm => q_line hz hx hm (by omega) _ _ _)
  unfold xL_law_1301
  rw [rd_ok h1, rd_ok h2, rd_ok h3, e7, tt_cI, e2, rd_ok h1, rd_ok h2, rd_ok h3, e8, tt_cI, if_pos rfl]
  exact hc T1 hI1
theorem lo_likelier {F N : Nat} {c18 : Int32 → sm_t → Option (Int32 × sm_t)} {l3 : Int32} {S : sm_t} {xs : Nat → Int32} (hF : 100000 < F ∧ F < 2147483648) (h1 : sm_ix (l3 + 1) N = true) (h2 : sm_ix (l3 + 2) N = true) (h3 : sm_ix (l3 + 3) N = true) (h4 : sm_ix (l3 + 4) N = true) (h5 : sm_ix (l3 + 5) N = true) (hI : li xs S) (hc : ∀ T : sm_t, li xs T → ∃ S' : sm_t, c18 (l3 + 6) T = some (1, S')) : ∃ S' : sm_t, xL_law_1268 F N c18 l3 S = some (1, S') := by
  obtain ⟨v, S1, T1, e7, e8, e2, hI1⟩ := ls_I (f7 := x7_likelier F (S.1 2 (l3 + 1).toNatClampNeg) (S.1 2 (l3 + 2).toNatClampNeg)) (f8 := x8_likelier F (S.1 2 (l3 + 1).toNatClampNeg) (S.1 2 (l3 + 2).toNatClampNeg)) hI (fun z J K T hz hx hm => q_likelier hz hx hm (by omega) _ _)
  unfold xL_law_1268
  rw [rd_ok h1, rd_ok h2, e7, tt_cI, e2, rd_ok h1, rd_ok h2, e8, tt_cI, if_pos rfl]
  exact hc T1 hI1
theorem lo_cross {F N : Nat} {c18 : Int32 → sm_t → Option (Int32 × sm_t)} {l3 : Int32} {S : sm_t} {xs : Nat → Int32} (hF : 100000 < F ∧ F < 2147483648) (h1 : sm_ix (l3 + 1) N = true) (h2 : sm_ix (l3 + 2) N = true) (h3 : sm_ix (l3 + 3) N = true) (h4 : sm_ix (l3 + 4) N = true) (h5 : sm_ix (l3 + 5) N = true) (hI : li xs S) (hc : ∀ T : sm_t, li xs T → ∃ S' : sm_t, c18 (l3 + 6) T = some (1, S')) : ∃ S' : sm_t, xL_law_1245 F N c18 l3 S = some (1, S') := by
  obtain ⟨v, S1, T1, e7, e8, e2, hI1⟩ := ls_I (f7 := x7_cross F (S.1 2 (l3 + 1).toNatClampNeg)) (f8 := x8_cross F (S.1 2 (l3 + 1).toNatClampNeg)) hI (fun z J K T hz hx hm => q_cross hz hx hm (by omega) _)
  unfold xL_law_1245
  rw [rd_ok h1, e7, tt_cI, e2, rd_ok h1, e8, tt_cI, if_pos rfl]
  exact hc T1 hI1
theorem lo_truly {F N : Nat} {c18 : Int32 → sm_t → Option (Int32 × sm_t)} {l3 : Int32} {S : sm_t} {xs : Nat → Int32} (hF : 100000 < F ∧ F < 2147483648) (h1 : sm_ix (l3 + 1) N = true) (h2 : sm_ix (l3 + 2) N = true) (h3 : sm_ix (l3 + 3) N = true) (h4 : sm_ix (l3 + 4) N = true) (h5 : sm_ix (l3 + 5) N = true) (hI : li xs S) (hc : ∀ T : sm_t, li xs T → ∃ S' : sm_t, c18 (l3 + 6) T = some (1, S')) : ∃ S' : sm_t, xL_law_1212 F N c18 l3 S = some (1, S') := by
  obtain ⟨v, S1, T1, e7, e8, e2, hI1⟩ := ls_I (f7 := x7_truly F (S.1 2 (l3 + 1).toNatClampNeg) (S.1 2 (l3 + 2).toNatClampNeg)) (f8 := x8_truly F (S.1 2 (l3 + 1).toNatClampNeg) (S.1 2 (l3 + 2).toNatClampNeg)) hI (fun z J K T hz hx hm => q_truly hz hx hm (by omega) _ _)
  unfold xL_law_1212
  rw [rd_ok h1, rd_ok h2, e7, tt_cI, e2, rd_ok h1, rd_ok h2, e8, tt_cI, if_pos rfl]
  exact hc T1 hI1
theorem lo_turns {F N : Nat} {c18 : Int32 → sm_t → Option (Int32 × sm_t)} {l3 : Int32} {S : sm_t} {xs : Nat → Int32} (hF : 100000 < F ∧ F < 2147483648) (h1 : sm_ix (l3 + 1) N = true) (h2 : sm_ix (l3 + 2) N = true) (h3 : sm_ix (l3 + 3) N = true) (h4 : sm_ix (l3 + 4) N = true) (h5 : sm_ix (l3 + 5) N = true) (hI : li xs S) (hc : ∀ T : sm_t, li xs T → ∃ S' : sm_t, c18 (l3 + 6) T = some (1, S')) : ∃ S' : sm_t, xL_law_1189 F N c18 l3 S = some (1, S') := by
  obtain ⟨v, S1, T1, e7, e8, e2, hI1⟩ := ls_I (f7 := x7_turns F (S.1 2 (l3 + 1).toNatClampNeg)) (f8 := x8_turns F (S.1 2 (l3 + 1).toNatClampNeg)) hI (fun z J K T hz hx hm => q_turns hz hx hm (by omega) _)
  unfold xL_law_1189
  rw [rd_ok h1, e7, tt_cI, e2, rd_ok h1, e8, tt_cI, if_pos rfl]
  exact hc T1 hI1
theorem lo_falls {F N : Nat} {c18 : Int32 → sm_t → Option (Int32 × sm_t)} {l3 : Int32} {S : sm_t} {xs : Nat → Int32} (hF : 100000 < F ∧ F < 2147483648) (h1 : sm_ix (l3 + 1) N = true) (h2 : sm_ix (l3 + 2) N = true) (h3 : sm_ix (l3 + 3) N = true) (h4 : sm_ix (l3 + 4) N = true) (h5 : sm_ix (l3 + 5) N = true) (hI : li xs S) (hc : ∀ T : sm_t, li xs T → ∃ S' : sm_t, c18 (l3 + 6) T = some (1, S')) : ∃ S' : sm_t, xL_law_1146 F N c18 l3 S = some (1, S') := by
  obtain ⟨v, S1, T1, e7, e8, e2, hI1⟩ := ls_I (f7 := x7_falls F (S.1 2 (l3 + 1).toNatClampNeg) (S.1 2 (l3 + 2).toNatClampNeg) (S.1 2 (l3 + 3).toNatClampNeg)) (f8 := x8_falls F (S.1 2 (l3 + 1).toNatClampNeg) (S.1 2 (l3 + 2).toNatClampNeg) (S.1 2 (l3 + 3).toNatClampNeg)) hI (fun z J K T hz hx hm => q_falls hz hx hm (by omega) _ _ _)
  unfold xL_law_1146
  rw [rd_ok h1, rd_ok h2, rd_ok h3, e7, tt_cI, e2, rd_ok h1, rd_ok h2, rd_ok h3, e8, tt_cI, if_pos rfl]
  exact hc T1 hI1
theorem lo_ended {F N : Nat} {c18 : Int32 → sm_t → Option (Int32 × sm_t)} {l3 : Int32} {S : sm_t} {xs : Nat → Int32} (hF : 100000 < F ∧ F < 2147483648) (h1 : sm_ix (l3 + 1) N = true) (h2 : sm_ix (l3 + 2) N = true) (h3 : sm_ix (l3 + 3) N = true) (h4 : sm_ix (l3 + 4) N = true) (h5 : sm_ix (l3 + 5) N = true) (hI : li xs S) (hc : ∀ T : sm_t, li xs T → ∃ S' : sm_t, c18 (l3 + 6) T = some (1, S')) : ∃ S' : sm_t, xL_law_1123 F N c18 l3 S = some (1, S') := by
  obtain ⟨v, S1, T1, e7, e8, e2, hI1⟩ := ls_I (f7 := x7_ended F (S.1 2 (l3 + 1).toNatClampNeg)) (f8 := x8_ended F (S.1 2 (l3 + 1).toNatClampNeg)) hI (fun z J K T hz hx hm => q_ended hz hx hm (by omega) _)
  unfold xL_law_1123
  rw [rd_ok h1, e7, tt_cI, e2, rd_ok h1, e8, tt_cI, if_pos rfl]
  exact hc T1 hI1
theorem lo_hour {F N : Nat} {c18 : Int32 → sm_t → Option (Int32 × sm_t)} {l3 : Int32} {S : sm_t} {xs : Nat → Int32} (hF : 100000 < F ∧ F < 2147483648) (h1 : sm_ix (l3 + 1) N = true) (h2 : sm_ix (l3 + 2) N = true) (h3 : sm_ix (l3 + 3) N = true) (h4 : sm_ix (l3 + 4) N = true) (h5 : sm_ix (l3 + 5) N = true) (hI : li xs S) (hc : ∀ T : sm_t, li xs T → ∃ S' : sm_t, c18 (l3 + 6) T = some (1, S')) : ∃ S' : sm_t, xL_law_1090 F N c18 l3 S = some (1, S') := by
  obtain ⟨v, S1, T1, e7, e8, e2, hI1⟩ := ls_I (f7 := x7_hour F (S.1 2 (l3 + 1).toNatClampNeg) (S.1 2 (l3 + 2).toNatClampNeg)) (f8 := x8_hour F (S.1 2 (l3 + 1).toNatClampNeg) (S.1 2 (l3 + 2).toNatClampNeg)) hI (fun z J K T hz hx hm => q_hour hz hx hm (by omega) _ _)
  unfold xL_law_1090
  rw [rd_ok h1, rd_ok h2, e7, tt_cI, e2, rd_ok h1, rd_ok h2, e8, tt_cI, if_pos rfl]
  exact hc T1 hI1
theorem lo_sure {F N : Nat} {c18 : Int32 → sm_t → Option (Int32 × sm_t)} {l3 : Int32} {S : sm_t} {xs : Nat → Int32} (hF : 100000 < F ∧ F < 2147483648) (h1 : sm_ix (l3 + 1) N = true) (h2 : sm_ix (l3 + 2) N = true) (h3 : sm_ix (l3 + 3) N = true) (h4 : sm_ix (l3 + 4) N = true) (h5 : sm_ix (l3 + 5) N = true) (hI : li xs S) (hc : ∀ T : sm_t, li xs T → ∃ S' : sm_t, c18 (l3 + 6) T = some (1, S')) : ∃ S' : sm_t, xL_law_1047 F N c18 l3 S = some (1, S') := by
  obtain ⟨v, S1, T1, e7, e8, e2, hI1⟩ := ls_I (f7 := x7_sure F (S.1 2 (l3 + 1).toNatClampNeg) (S.1 2 (l3 + 2).toNatClampNeg) (S.1 2 (l3 + 3).toNatClampNeg)) (f8 := x8_sure F (S.1 2 (l3 + 1).toNatClampNeg) (S.1 2 (l3 + 2).toNatClampNeg) (S.1 2 (l3 + 3).toNatClampNeg)) hI (fun z J K T hz hx hm => q_sure hz hx hm (by omega) _ _ _)
  unfold xL_law_1047
  rw [rd_ok h1, rd_ok h2, rd_ok h3, e7, tt_cI, e2, rd_ok h1, rd_ok h2, rd_ok h3, e8, tt_cI, if_pos rfl]
  exact hc T1 hI1
theorem lo_most {F N : Nat} {c18 : Int32 → sm_t → Option (Int32 × sm_t)} {l3 : Int32} {S : sm_t} {xs : Nat → Int32} (hF : 100000 < F ∧ F < 2147483648) (h1 : sm_ix (l3 + 1) N = true) (h2 : sm_ix (l3 + 2) N = true) (h3 : sm_ix (l3 + 3) N = true) (h4 : sm_ix (l3 + 4) N = true) (h5 : sm_ix (l3 + 5) N = true) (hI : li xs S) (hc : ∀ T : sm_t, li xs T → ∃ S' : sm_t, c18 (l3 + 6) T = some (1, S')) : ∃ S' : sm_t, xL_law_1024 F N c18 l3 S = some (1, S') := by
  obtain ⟨v, S1, T1, e7, e8, e2, hI1⟩ := ls_I (f7 := x7_most F (S.1 2 (l3 + 1).toNatClampNeg)) (f8 := x8_most F (S.1 2 (l3 + 1).toNatClampNeg)) hI (fun z J K T hz hx hm => q_most hz hx hm (by omega) _)
  unfold xL_law_1024
  rw [rd_ok h1, e7, tt_cI, e2, rd_ok h1, e8, tt_cI, if_pos rfl]
  exact hc T1 hI1
theorem lo_where {F N : Nat} {c18 : Int32 → sm_t → Option (Int32 × sm_t)} {l3 : Int32} {S : sm_t} {xs : Nat → Int32} (hF : 100000 < F ∧ F < 2147483648) (h1 : sm_ix (l3 + 1) N = true) (h2 : sm_ix (l3 + 2) N = true) (h3 : sm_ix (l3 + 3) N = true) (h4 : sm_ix (l3 + 4) N = true) (h5 : sm_ix (l3 + 5) N = true) (hI : li xs S) (hc : ∀ T : sm_t, li xs T → ∃ S' : sm_t, c18 (l3 + 6) T = some (1, S')) : ∃ S' : sm_t, xL_law_991 F N c18 l3 S = some (1, S') := by
  obtain ⟨v, S1, T1, e7, e8, e2, hI1⟩ := ls_I (f7 := x7_where F (S.1 2 (l3 + 1).toNatClampNeg) (S.1 2 (l3 + 2).toNatClampNeg)) (f8 := x8_where F (S.1 2 (l3 + 1).toNatClampNeg) (S.1 2 (l3 + 2).toNatClampNeg)) hI (fun z J K T hz hx hm => q_where hz hx hm (by omega) _ _)
  unfold xL_law_991
  rw [rd_ok h1, rd_ok h2, e7, tt_cI, e2, rd_ok h1, rd_ok h2, e8, tt_cI, if_pos rfl]
  exact hc T1 hI1
theorem lo_near {F N : Nat} {c18 : Int32 → sm_t → Option (Int32 × sm_t)} {l3 : Int32} {S : sm_t} {xs : Nat → Int32} (hF : 100000 < F ∧ F < 2147483648) (h1 : sm_ix (l3 + 1) N = true) (h2 : sm_ix (l3 + 2) N = true) (h3 : sm_ix (l3 + 3) N = true) (h4 : sm_ix (l3 + 4) N = true) (h5 : sm_ix (l3 + 5) N = true) (hI : li xs S) (hc : ∀ T : sm_t, li xs T → ∃ S' : sm_t, c18 (l3 + 6) T = some (1, S')) : ∃ S' : sm_t, xL_law_968 F N c18 l3 S = some (1, S') := by
  obtain ⟨v, S1, T1, e7, e8, e2, hI1⟩ := ls_I (f7 := x7_near F (S.1 2 (l3 + 1).toNatClampNeg)) (f8 := x8_near F (S.1 2 (l3 + 1).toNatClampNeg)) hI (fun z J K T hz hx hm => q_near hz hx hm (by omega) _)
  unfold xL_law_968
  rw [rd_ok h1, e7, tt_cI, e2, rd_ok h1, e8, tt_cI, if_pos rfl]
  exact hc T1 hI1
theorem lo_weighs {F N : Nat} {c18 : Int32 → sm_t → Option (Int32 × sm_t)} {l3 : Int32} {S : sm_t} {xs : Nat → Int32} (hF : 100000 < F ∧ F < 2147483648) (h1 : sm_ix (l3 + 1) N = true) (h2 : sm_ix (l3 + 2) N = true) (h3 : sm_ix (l3 + 3) N = true) (h4 : sm_ix (l3 + 4) N = true) (h5 : sm_ix (l3 + 5) N = true) (hI : li xs S) (hc : ∀ T : sm_t, li xs T → ∃ S' : sm_t, c18 (l3 + 6) T = some (1, S')) : ∃ S' : sm_t, xL_law_935 F N c18 l3 S = some (1, S') := by
  obtain ⟨v, S1, T1, e7, e8, e2, hI1⟩ := ls_I (f7 := x7_weighs F (S.1 2 (l3 + 1).toNatClampNeg) (S.1 2 (l3 + 2).toNatClampNeg)) (f8 := x8_weighs F (S.1 2 (l3 + 1).toNatClampNeg) (S.1 2 (l3 + 2).toNatClampNeg)) hI (fun z J K T hz hx hm => q_weighs hz hx hm _ _)
  unfold xL_law_935
  rw [rd_ok h1, rd_ok h2, e7, tt_cI, e2, rd_ok h1, rd_ok h2, e8, tt_cI, if_pos rfl]
  exact hc T1 hI1
theorem lo_mark {F N : Nat} {c18 : Int32 → sm_t → Option (Int32 × sm_t)} {l3 : Int32} {S : sm_t} {xs : Nat → Int32} (hF : 100000 < F ∧ F < 2147483648) (h1 : sm_ix (l3 + 1) N = true) (h2 : sm_ix (l3 + 2) N = true) (h3 : sm_ix (l3 + 3) N = true) (h4 : sm_ix (l3 + 4) N = true) (h5 : sm_ix (l3 + 5) N = true) (hI : li xs S) (hc : ∀ T : sm_t, li xs T → ∃ S' : sm_t, c18 (l3 + 6) T = some (1, S')) : ∃ S' : sm_t, xL_law_902 F N c18 l3 S = some (1, S') := by
  obtain ⟨v, S1, T1, e7, e8, e2, hI1⟩ := ls_I (f7 := x7_mark F (S.1 2 (l3 + 1).toNatClampNeg) (S.1 2 (l3 + 2).toNatClampNeg)) (f8 := x8_mark F (S.1 2 (l3 + 1).toNatClampNeg) (S.1 2 (l3 + 2).toNatClampNeg)) hI (fun z J K T hz hx hm => q_mark hz hx hm (by omega) _ _)
  unfold xL_law_902
  rw [rd_ok h1, rd_ok h2, e7, tt_cI, e2, rd_ok h1, rd_ok h2, e8, tt_cI, if_pos rfl]
  exact hc T1 hI1
theorem lo_told {F N : Nat} {c18 : Int32 → sm_t → Option (Int32 × sm_t)} {l3 : Int32} {S : sm_t} {xs : Nat → Int32} (hF : 100000 < F ∧ F < 2147483648) (h1 : sm_ix (l3 + 1) N = true) (h2 : sm_ix (l3 + 2) N = true) (h3 : sm_ix (l3 + 3) N = true) (h4 : sm_ix (l3 + 4) N = true) (h5 : sm_ix (l3 + 5) N = true) (hI : li xs S) (hc : ∀ T : sm_t, li xs T → ∃ S' : sm_t, c18 (l3 + 6) T = some (1, S')) : ∃ S' : sm_t, xL_law_869 F N c18 l3 S = some (1, S') := by
  obtain ⟨v, S1, T1, e7, e8, e2, hI1⟩ := ls_I (f7 := x7_told F (S.1 2 (l3 + 1).toNatClampNeg) (S.1 2 (l3 + 2).toNatClampNeg)) (f8 := x8_told F (S.1 2 (l3 + 1).toNatClampNeg) (S.1 2 (l3 + 2).toNatClampNeg)) hI (fun z J K T hz hx hm => q_told hz hx hm _ _)
  unfold xL_law_869
  rw [rd_ok h1, rd_ok h2, e7, tt_cI, e2, rd_ok h1, rd_ok h2, e8, tt_cI, if_pos rfl]
  exact hc T1 hI1
theorem lo_undo {F N : Nat} {c18 : Int32 → sm_t → Option (Int32 × sm_t)} {l3 : Int32} {S : sm_t} {xs : Nat → Int32} (hF : 100000 < F ∧ F < 2147483648) (h1 : sm_ix (l3 + 1) N = true) (h2 : sm_ix (l3 + 2) N = true) (h3 : sm_ix (l3 + 3) N = true) (h4 : sm_ix (l3 + 4) N = true) (h5 : sm_ix (l3 + 5) N = true) (hI : li xs S) (hc : ∀ T : sm_t, li xs T → ∃ S' : sm_t, c18 (l3 + 6) T = some (1, S')) : ∃ S' : sm_t, xL_law_836 F N c18 l3 S = some (1, S') := by
  obtain ⟨v, S1, T1, e7, e8, e2, hI1⟩ := ls_I (f7 := x7_undo F (S.1 2 (l3 + 1).toNatClampNeg) (S.1 2 (l3 + 2).toNatClampNeg)) (f8 := x8_undo F (S.1 2 (l3 + 1).toNatClampNeg) (S.1 2 (l3 + 2).toNatClampNeg)) hI (fun z J K T hz hx hm => q_undo hz hx hm _ _)
  unfold xL_law_836
  rw [rd_ok h1, rd_ok h2, e7, tt_cI, e2, rd_ok h1, rd_ok h2, e8, tt_cI, if_pos rfl]
  exact hc T1 hI1
theorem lo_signs {F N : Nat} {c18 : Int32 → sm_t → Option (Int32 × sm_t)} {l3 : Int32} {S : sm_t} {xs : Nat → Int32} (hF : 100000 < F ∧ F < 2147483648) (h1 : sm_ix (l3 + 1) N = true) (h2 : sm_ix (l3 + 2) N = true) (h3 : sm_ix (l3 + 3) N = true) (h4 : sm_ix (l3 + 4) N = true) (h5 : sm_ix (l3 + 5) N = true) (hI : li xs S) (hc : ∀ T : sm_t, li xs T → ∃ S' : sm_t, c18 (l3 + 6) T = some (1, S')) : ∃ S' : sm_t, xL_law_813 F N c18 l3 S = some (1, S') := by
  obtain ⟨v, S1, T1, e7, e8, e2, hI1⟩ := ls_I (f7 := x7_signs F (S.1 2 (l3 + 1).toNatClampNeg)) (f8 := x8_signs F (S.1 2 (l3 + 1).toNatClampNeg)) hI (fun z J K T hz hx hm => q_signs hz hx hm (by omega) _)
  unfold xL_law_813
  rw [rd_ok h1, e7, tt_cI, e2, rd_ok h1, e8, tt_cI, if_pos rfl]
  exact hc T1 hI1
theorem lo_sign {F N : Nat} {c18 : Int32 → sm_t → Option (Int32 × sm_t)} {l3 : Int32} {S : sm_t} {xs : Nat → Int32} (hF : 100000 < F ∧ F < 2147483648) (h1 : sm_ix (l3 + 1) N = true) (h2 : sm_ix (l3 + 2) N = true) (h3 : sm_ix (l3 + 3) N = true) (h4 : sm_ix (l3 + 4) N = true) (h5 : sm_ix (l3 + 5) N = true) (hI : li xs S) (hc : ∀ T : sm_t, li xs T → ∃ S' : sm_t, c18 (l3 + 6) T = some (1, S')) : ∃ S' : sm_t, xL_law_760 F N c18 l3 S = some (1, S') := by
  obtain ⟨v, S1, T1, e7, e8, e2, hI1⟩ := ls_I (f7 := x7_sign F (S.1 2 (l3 + 1).toNatClampNeg) (S.1 2 (l3 + 2).toNatClampNeg) (S.1 2 (l3 + 3).toNatClampNeg) (S.1 2 (l3 + 4).toNatClampNeg)) (f8 := x8_sign F (S.1 2 (l3 + 1).toNatClampNeg) (S.1 2 (l3 + 2).toNatClampNeg) (S.1 2 (l3 + 3).toNatClampNeg) (S.1 2 (l3 + 4).toNatClampNeg)) hI (fun z J K T hz hx hm => q_sign hz hx hm _ _ _ _)
  unfold xL_law_760
  rw [rd_ok h1, rd_ok h2, rd_ok h3, rd_ok h4, e7, tt_cI, e2, rd_ok h1, rd_ok h2, rd_ok h3, rd_ok h4, e8, tt_cI, if_pos rfl]
  exact hc T1 hI1
theorem lo_far {F N : Nat} {c18 : Int32 → sm_t → Option (Int32 × sm_t)} {l3 : Int32} {S : sm_t} {xs : Nat → Int32} (hF : 100000 < F ∧ F < 2147483648) (h1 : sm_ix (l3 + 1) N = true) (h2 : sm_ix (l3 + 2) N = true) (h3 : sm_ix (l3 + 3) N = true) (h4 : sm_ix (l3 + 4) N = true) (h5 : sm_ix (l3 + 5) N = true) (hI : li xs S) (hc : ∀ T : sm_t, li xs T → ∃ S' : sm_t, c18 (l3 + 6) T = some (1, S')) : ∃ S' : sm_t, xL_law_727 F N c18 l3 S = some (1, S') := by
  obtain ⟨v, S1, T1, e7, e8, e2, hI1⟩ := ls_I (f7 := x7_far F (S.1 2 (l3 + 1).toNatClampNeg) (S.1 2 (l3 + 2).toNatClampNeg)) (f8 := x8_far F (S.1 2 (l3 + 1).toNatClampNeg) (S.1 2 (l3 + 2).toNatClampNeg)) hI (fun z J K T hz hx hm => q_far hz hx hm _ _)
  unfold xL_law_727
  rw [rd_ok h1, rd_ok h2, e7, tt_cI, e2, rd_ok h1, rd_ok h2, e8, tt_cI, if_pos rfl]
  exact hc T1 hI1
theorem lo_lies {F N : Nat} {c18 : Int32 → sm_t → Option (Int32 × sm_t)} {l3 : Int32} {S : sm_t} {xs : Nat → Int32} (hF : 100000 < F ∧ F < 2147483648) (h1 : sm_ix (l3 + 1) N = true) (h2 : sm_ix (l3 + 2) N = true) (h3 : sm_ix (l3 + 3) N = true) (h4 : sm_ix (l3 + 4) N = true) (h5 : sm_ix (l3 + 5) N = true) (hI : li xs S) (hc : ∀ T : sm_t, li xs T → ∃ S' : sm_t, c18 (l3 + 6) T = some (1, S')) : ∃ S' : sm_t, xL_law_694 F N c18 l3 S = some (1, S') := by
  obtain ⟨v, S1, T1, e7, e8, e2, hI1⟩ := ls_I (f7 := x7_lies F (S.1 2 (l3 + 1).toNatClampNeg) (S.1 2 (l3 + 2).toNatClampNeg)) (f8 := x8_lies F (S.1 2 (l3 + 1).toNatClampNeg) (S.1 2 (l3 + 2).toNatClampNeg)) hI (fun z J K T hz hx hm => q_lies hz hx hm _ _)
  unfold xL_law_694
  rw [rd_ok h1, rd_ok h2, e7, tt_cI, e2, rd_ok h1, rd_ok h2, e8, tt_cI, if_pos rfl]
  exact hc T1 hI1
theorem lo_story {F N : Nat} {c18 : Int32 → sm_t → Option (Int32 × sm_t)} {l3 : Int32} {S : sm_t} {xs : Nat → Int32} (hF : 100000 < F ∧ F < 2147483648) (h1 : sm_ix (l3 + 1) N = true) (h2 : sm_ix (l3 + 2) N = true) (h3 : sm_ix (l3 + 3) N = true) (h4 : sm_ix (l3 + 4) N = true) (h5 : sm_ix (l3 + 5) N = true) (hI : li xs S) (hc : ∀ T : sm_t, li xs T → ∃ S' : sm_t, c18 (l3 + 6) T = some (1, S')) : ∃ S' : sm_t, xL_law_661 F N c18 l3 S = some (1, S') := by
  obtain ⟨v, S1, T1, e7, e8, e2, hI1⟩ := ls_I (f7 := x7_story F (S.1 2 (l3 + 1).toNatClampNeg) (S.1 2 (l3 + 2).toNatClampNeg)) (f8 := x8_story F (S.1 2 (l3 + 1).toNatClampNeg) (S.1 2 (l3 + 2).toNatClampNeg)) hI (fun z J K T hz hx hm => q_story hz hx hm ⟨by omega, by omega⟩ _ _)
  unfold xL_law_661
  rw [rd_ok h1, rd_ok h2, e7, tt_cI, e2, rd_ok h1, rd_ok h2, e8, tt_cI, if_pos rfl]
  exact hc T1 hI1
theorem lo_fault {F N : Nat} {c18 : Int32 → sm_t → Option (Int32 × sm_t)} {l3 : Int32} {S : sm_t} {xs : Nat → Int32} (hF : 100000 < F ∧ F < 2147483648) (h1 : sm_ix (l3 + 1) N = true) (h2 : sm_ix (l3 + 2) N = true) (h3 : sm_ix (l3 + 3) N = true) (h4 : sm_ix (l3 + 4) N = true) (h5 : sm_ix (l3 + 5) N = true) (hI : li xs S) (hc : ∀ T : sm_t, li xs T → ∃ S' : sm_t, c18 (l3 + 6) T = some (1, S')) : ∃ S' : sm_t, xL_law_638 F N c18 l3 S = some (1, S') := by
  obtain ⟨v, S1, T1, e7, e8, e2, hI1⟩ := ls_I (f7 := x7_fault F (S.1 2 (l3 + 1).toNatClampNeg)) (f8 := x8_fault F (S.1 2 (l3 + 1).toNatClampNeg)) hI (fun z J K T hz hx hm => q_fault hz hx hm ⟨by omega, by omega⟩ _)
  unfold xL_law_638
  rw [rd_ok h1, e7, tt_cI, e2, rd_ok h1, e8, tt_cI, if_pos rfl]
  exact hc T1 hI1
theorem lo_plan {F N : Nat} {c18 : Int32 → sm_t → Option (Int32 × sm_t)} {l3 : Int32} {S : sm_t} {xs : Nat → Int32} (hF : 100000 < F ∧ F < 2147483648) (h1 : sm_ix (l3 + 1) N = true) (h2 : sm_ix (l3 + 2) N = true) (h3 : sm_ix (l3 + 3) N = true) (h4 : sm_ix (l3 + 4) N = true) (h5 : sm_ix (l3 + 5) N = true) (hI : li xs S) (hc : ∀ T : sm_t, li xs T → ∃ S' : sm_t, c18 (l3 + 6) T = some (1, S')) : ∃ S' : sm_t, xL_law_615 F N c18 l3 S = some (1, S') := by
  obtain ⟨v, S1, T1, e7, e8, e2, hI1⟩ := ls_I (f7 := x7_plan F (S.1 2 (l3 + 1).toNatClampNeg)) (f8 := x8_plan F (S.1 2 (l3 + 1).toNatClampNeg)) hI (fun z J K T hz hx hm => q_plan hz hx hm _)
  unfold xL_law_615
  rw [rd_ok h1, e7, tt_cI, e2, rd_ok h1, e8, tt_cI, if_pos rfl]
  exact hc T1 hI1
theorem lo_course {F N : Nat} {c18 : Int32 → sm_t → Option (Int32 × sm_t)} {l3 : Int32} {S : sm_t} {xs : Nat → Int32} (hF : 100000 < F ∧ F < 2147483648) (h1 : sm_ix (l3 + 1) N = true) (h2 : sm_ix (l3 + 2) N = true) (h3 : sm_ix (l3 + 3) N = true) (h4 : sm_ix (l3 + 4) N = true) (h5 : sm_ix (l3 + 5) N = true) (hI : li xs S) (hc : ∀ T : sm_t, li xs T → ∃ S' : sm_t, c18 (l3 + 6) T = some (1, S')) : ∃ S' : sm_t, xL_law_582 F N c18 l3 S = some (1, S') := by
  obtain ⟨v, S1, T1, e7, e8, e2, hI1⟩ := ls_I (f7 := x7_course F (S.1 2 (l3 + 1).toNatClampNeg) (S.1 2 (l3 + 2).toNatClampNeg)) (f8 := x8_course F (S.1 2 (l3 + 1).toNatClampNeg) (S.1 2 (l3 + 2).toNatClampNeg)) hI (fun z J K T hz hx hm => q_course hz hx hm _ _)
  unfold xL_law_582
  rw [rd_ok h1, rd_ok h2, e7, tt_cI, e2, rd_ok h1, rd_ok h2, e8, tt_cI, if_pos rfl]
  exact hc T1 hI1
theorem lo_ends {F N : Nat} {c18 : Int32 → sm_t → Option (Int32 × sm_t)} {l3 : Int32} {S : sm_t} {xs : Nat → Int32} (hF : 100000 < F ∧ F < 2147483648) (h1 : sm_ix (l3 + 1) N = true) (h2 : sm_ix (l3 + 2) N = true) (h3 : sm_ix (l3 + 3) N = true) (h4 : sm_ix (l3 + 4) N = true) (h5 : sm_ix (l3 + 5) N = true) (hI : li xs S) (hc : ∀ T : sm_t, li xs T → ∃ S' : sm_t, c18 (l3 + 6) T = some (1, S')) : ∃ S' : sm_t, xL_law_559 F N c18 l3 S = some (1, S') := by
  obtain ⟨v, S1, T1, e7, e8, e2, hI1⟩ := ls_I (f7 := x7_ends F (S.1 2 (l3 + 1).toNatClampNeg)) (f8 := x8_ends F (S.1 2 (l3 + 1).toNatClampNeg)) hI (fun z J K T hz hx hm => q_ends hz hx hm (by omega) _)
  unfold xL_law_559
  rw [rd_ok h1, e7, tt_cI, e2, rd_ok h1, e8, tt_cI, if_pos rfl]
  exact hc T1 hI1
theorem lo_flight {F N : Nat} {c18 : Int32 → sm_t → Option (Int32 × sm_t)} {l3 : Int32} {S : sm_t} {xs : Nat → Int32} (hF : 100000 < F ∧ F < 2147483648) (h1 : sm_ix (l3 + 1) N = true) (h2 : sm_ix (l3 + 2) N = true) (h3 : sm_ix (l3 + 3) N = true) (h4 : sm_ix (l3 + 4) N = true) (h5 : sm_ix (l3 + 5) N = true) (hI : li xs S) (hc : ∀ T : sm_t, li xs T → ∃ S' : sm_t, c18 (l3 + 6) T = some (1, S')) : ∃ S' : sm_t, xL_law_526 F N c18 l3 S = some (1, S') := by
  obtain ⟨v, S1, T1, e7, e8, e2, hI1⟩ := ls_I (f7 := x7_flight F (S.1 2 (l3 + 1).toNatClampNeg) (S.1 2 (l3 + 2).toNatClampNeg)) (f8 := x8_flight F (S.1 2 (l3 + 1).toNatClampNeg) (S.1 2 (l3 + 2).toNatClampNeg)) hI (fun z J K T hz hx hm => q_flight hz hx hm ⟨by omega, by omega⟩ _ _)
  unfold xL_law_526
  rw [rd_ok h1, rd_ok h2, e7, tt_cI, e2, rd_ok h1, rd_ok h2, e8, tt_cI, if_pos rfl]
  exact hc T1 hI1
theorem lo_put {F N : Nat} {c18 : Int32 → sm_t → Option (Int32 × sm_t)} {l3 : Int32} {S : sm_t} {xs : Nat → Int32} (hF : 100000 < F ∧ F < 2147483648) (h1 : sm_ix (l3 + 1) N = true) (h2 : sm_ix (l3 + 2) N = true) (h3 : sm_ix (l3 + 3) N = true) (h4 : sm_ix (l3 + 4) N = true) (h5 : sm_ix (l3 + 5) N = true) (hI : li xs S) (hc : ∀ T : sm_t, li xs T → ∃ S' : sm_t, c18 (l3 + 6) T = some (1, S')) : ∃ S' : sm_t, xL_law_483 F N c18 l3 S = some (1, S') := by
  obtain ⟨v, S1, T1, e7, e8, e2, hI1⟩ := ls_I (f7 := x7_put F (S.1 2 (l3 + 1).toNatClampNeg) (S.1 2 (l3 + 2).toNatClampNeg) (S.1 2 (l3 + 3).toNatClampNeg)) (f8 := x8_put F (S.1 2 (l3 + 1).toNatClampNeg) (S.1 2 (l3 + 2).toNatClampNeg) (S.1 2 (l3 + 3).toNatClampNeg)) hI (fun z J K T hz hx hm => q_put hz hx hm _ _ _)
  unfold xL_law_483
  rw [rd_ok h1, rd_ok h2, rd_ok h3, e7, tt_cI, e2, rd_ok h1, rd_ok h2, rd_ok h3, e8, tt_cI, if_pos rfl]
  exact hc T1 hI1
theorem lo_text {F N : Nat} {c18 : Int32 → sm_t → Option (Int32 × sm_t)} {l3 : Int32} {S : sm_t} {xs : Nat → Int32} (hF : 100000 < F ∧ F < 2147483648) (h1 : sm_ix (l3 + 1) N = true) (h2 : sm_ix (l3 + 2) N = true) (h3 : sm_ix (l3 + 3) N = true) (h4 : sm_ix (l3 + 4) N = true) (h5 : sm_ix (l3 + 5) N = true) (hI : li xs S) (hc : ∀ T : sm_t, li xs T → ∃ S' : sm_t, c18 (l3 + 6) T = some (1, S')) : ∃ S' : sm_t, xL_law_450 F N c18 l3 S = some (1, S') := by
  obtain ⟨v, S1, T1, e7, e8, e2, hI1⟩ := ls_I (f7 := x7_text F (S.1 2 (l3 + 1).toNatClampNeg) (S.1 2 (l3 + 2).toNatClampNeg)) (f8 := x8_text F (S.1 2 (l3 + 1).toNatClampNeg) (S.1 2 (l3 + 2).toNatClampNeg)) hI (fun z J K T hz hx hm => q_text hz hx hm (by omega) _ _)
  unfold xL_law_450
  rw [rd_ok h1, rd_ok h2, e7, tt_cI, e2, rd_ok h1, rd_ok h2, e8, tt_cI, if_pos rfl]
  exact hc T1 hI1
theorem lo_mean {F N : Nat} {c18 : Int32 → sm_t → Option (Int32 × sm_t)} {l3 : Int32} {S : sm_t} {xs : Nat → Int32} (hF : 100000 < F ∧ F < 2147483648) (h1 : sm_ix (l3 + 1) N = true) (h2 : sm_ix (l3 + 2) N = true) (h3 : sm_ix (l3 + 3) N = true) (h4 : sm_ix (l3 + 4) N = true) (h5 : sm_ix (l3 + 5) N = true) (hI : li xs S) (hc : ∀ T : sm_t, li xs T → ∃ S' : sm_t, c18 (l3 + 6) T = some (1, S')) : ∃ S' : sm_t, xL_law_427 F N c18 l3 S = some (1, S') := by
  obtain ⟨v, S1, T1, e7, e8, e2, hI1⟩ := ls_I (f7 := x7_mean F (S.1 2 (l3 + 1).toNatClampNeg)) (f8 := x8_mean F (S.1 2 (l3 + 1).toNatClampNeg)) hI (fun z J K T hz hx hm => q_mean hz hx hm (by omega) _)
  unfold xL_law_427
  rw [rd_ok h1, e7, tt_cI, e2, rd_ok h1, e8, tt_cI, if_pos rfl]
  exact hc T1 hI1
theorem lo_copy {F N : Nat} {c18 : Int32 → sm_t → Option (Int32 × sm_t)} {l3 : Int32} {S : sm_t} {xs : Nat → Int32} (hF : 100000 < F ∧ F < 2147483648) (h1 : sm_ix (l3 + 1) N = true) (h2 : sm_ix (l3 + 2) N = true) (h3 : sm_ix (l3 + 3) N = true) (h4 : sm_ix (l3 + 4) N = true) (h5 : sm_ix (l3 + 5) N = true) (hI : li xs S) (hc : ∀ T : sm_t, li xs T → ∃ S' : sm_t, c18 (l3 + 6) T = some (1, S')) : ∃ S' : sm_t, xL_law_364 F N c18 l3 S = some (1, S') := by
  obtain ⟨v, S1, T1, e7, e8, e2, hI1⟩ := ls_I (f7 := x7_copy F (S.1 2 (l3 + 1).toNatClampNeg) (S.1 2 (l3 + 2).toNatClampNeg) (S.1 2 (l3 + 3).toNatClampNeg) (S.1 2 (l3 + 4).toNatClampNeg) (S.1 2 (l3 + 5).toNatClampNeg)) (f8 := x8_copy F (S.1 2 (l3 + 1).toNatClampNeg) (S.1 2 (l3 + 2).toNatClampNeg) (S.1 2 (l3 + 3).toNatClampNeg) (S.1 2 (l3 + 4).toNatClampNeg) (S.1 2 (l3 + 5).toNatClampNeg)) hI (fun z J K T hz hx hm => q_copy hz hx hm (by omega) _ _ _ _ _)
  unfold xL_law_364
  rw [rd_ok h1, rd_ok h2, rd_ok h3, rd_ok h4, rd_ok h5, e7, tt_cI, e2, rd_ok h1, rd_ok h2, rd_ok h3, rd_ok h4, rd_ok h5, e8, tt_cI, if_pos rfl]
  exact hc T1 hI1
theorem lo_tear {F N : Nat} {c18 : Int32 → sm_t → Option (Int32 × sm_t)} {l3 : Int32} {S : sm_t} {xs : Nat → Int32} (hF : 100000 < F ∧ F < 2147483648) (h1 : sm_ix (l3 + 1) N = true) (h2 : sm_ix (l3 + 2) N = true) (h3 : sm_ix (l3 + 3) N = true) (h4 : sm_ix (l3 + 4) N = true) (h5 : sm_ix (l3 + 5) N = true) (hI : li xs S) (hc : ∀ T : sm_t, li xs T → ∃ S' : sm_t, c18 (l3 + 6) T = some (1, S')) : ∃ S' : sm_t, xL_law_341 F N c18 l3 S = some (1, S') := by
  obtain ⟨v, S1, T1, e7, e8, e2, hI1⟩ := ls_I (f7 := x7_tear F (S.1 2 (l3 + 1).toNatClampNeg)) (f8 := x8_tear F (S.1 2 (l3 + 1).toNatClampNeg)) hI (fun z J K T hz hx hm => q_tear hz hx hm _)
  unfold xL_law_341
  rw [rd_ok h1, e7, tt_cI, e2, rd_ok h1, e8, tt_cI, if_pos rfl]
  exact hc T1 hI1
theorem lo_at {F N : Nat} {c18 : Int32 → sm_t → Option (Int32 × sm_t)} {l3 : Int32} {S : sm_t} {xs : Nat → Int32} (hF : 100000 < F ∧ F < 2147483648) (h1 : sm_ix (l3 + 1) N = true) (h2 : sm_ix (l3 + 2) N = true) (h3 : sm_ix (l3 + 3) N = true) (h4 : sm_ix (l3 + 4) N = true) (h5 : sm_ix (l3 + 5) N = true) (hI : li xs S) (hc : ∀ T : sm_t, li xs T → ∃ S' : sm_t, c18 (l3 + 6) T = some (1, S')) : ∃ S' : sm_t, xL_law_308 F N c18 l3 S = some (1, S') := by
  obtain ⟨v, S1, T1, e7, e8, e2, hI1⟩ := ls_I (f7 := x7_at F (S.1 2 (l3 + 1).toNatClampNeg) (S.1 2 (l3 + 2).toNatClampNeg)) (f8 := x8_at F (S.1 2 (l3 + 1).toNatClampNeg) (S.1 2 (l3 + 2).toNatClampNeg)) hI (fun z J K T hz hx hm => q_at hz hx hm _ _)
  unfold xL_law_308
  rw [rd_ok h1, rd_ok h2, e7, tt_cI, e2, rd_ok h1, rd_ok h2, e8, tt_cI, if_pos rfl]
  exact hc T1 hI1
theorem lo_lay {F N : Nat} {c18 : Int32 → sm_t → Option (Int32 × sm_t)} {l3 : Int32} {S : sm_t} {xs : Nat → Int32} (hF : 100000 < F ∧ F < 2147483648) (h1 : sm_ix (l3 + 1) N = true) (h2 : sm_ix (l3 + 2) N = true) (h3 : sm_ix (l3 + 3) N = true) (h4 : sm_ix (l3 + 4) N = true) (h5 : sm_ix (l3 + 5) N = true) (hI : li xs S) (hc : ∀ T : sm_t, li xs T → ∃ S' : sm_t, c18 (l3 + 6) T = some (1, S')) : ∃ S' : sm_t, xL_law_265 F N c18 l3 S = some (1, S') := by
  obtain ⟨v, S1, T1, e7, e8, e2, hI1⟩ := ls_I (f7 := x7_lay F (S.1 2 (l3 + 1).toNatClampNeg) (S.1 2 (l3 + 2).toNatClampNeg) (S.1 2 (l3 + 3).toNatClampNeg)) (f8 := x8_lay F (S.1 2 (l3 + 1).toNatClampNeg) (S.1 2 (l3 + 2).toNatClampNeg) (S.1 2 (l3 + 3).toNatClampNeg)) hI (fun z J K T hz hx hm => q_lay hz hx hm _ _ _)
  unfold xL_law_265
  rw [rd_ok h1, rd_ok h2, rd_ok h3, e7, tt_cI, e2, rd_ok h1, rd_ok h2, rd_ok h3, e8, tt_cI, if_pos rfl]
  exact hc T1 hI1
theorem lo_row {F N : Nat} {c18 : Int32 → sm_t → Option (Int32 × sm_t)} {l3 : Int32} {S : sm_t} {xs : Nat → Int32} (hF : 100000 < F ∧ F < 2147483648) (h1 : sm_ix (l3 + 1) N = true) (h2 : sm_ix (l3 + 2) N = true) (h3 : sm_ix (l3 + 3) N = true) (h4 : sm_ix (l3 + 4) N = true) (h5 : sm_ix (l3 + 5) N = true) (hI : li xs S) (hc : ∀ T : sm_t, li xs T → ∃ S' : sm_t, c18 (l3 + 6) T = some (1, S')) : ∃ S' : sm_t, xL_law_232 F N c18 l3 S = some (1, S') := by
  obtain ⟨v, S1, T1, e7, e8, e2, hI1⟩ := ls_I (f7 := x7_row F (S.1 2 (l3 + 1).toNatClampNeg) (S.1 2 (l3 + 2).toNatClampNeg)) (f8 := x8_row F (S.1 2 (l3 + 1).toNatClampNeg) (S.1 2 (l3 + 2).toNatClampNeg)) hI (fun z J K T hz hx hm => q_row hz hx hm ⟨by omega, by omega⟩ _ _)
  unfold xL_law_232
  rw [rd_ok h1, rd_ok h2, e7, tt_cI, e2, rd_ok h1, rd_ok h2, e8, tt_cI, if_pos rfl]
  exact hc T1 hI1
