/-! ===== drag: the reference; drag ===== -/
def mS (T : sm_t) (n h : Nat) (p : Nat → Nat) (b : dB) (T1 : sm_t) : Prop := (∀ q, q ≠ 52 → q ≠ 67 → q ≠ 68 → T1.1 q = T.1 q) ∧ (∀ i, i ≠ 27 → T1.1 52 i = T.1 52 i) ∧ (∀ q, q ≠ 52 → T1.2.1 q = T.2.1 q) ∧ (∀ i, i ≠ 26 → T1.2.1 52 i = T.2.1 52 i) ∧ T1.2.2 = T.2.2 ∧ (∀ j, j < h → T1.1 67 j = nI (p j)) ∧ T1.2.1 52 26 = bL b ∧ (∀ w q, b = some (w, q) → T1.1 52 27 = nI (cu q (n + 1)) ∧ ∀ j, j ≤ n → T1.1 68 j = nI (q j))
theorem m_was {F h c : Nat} {p : Nat → Nat} {T : sm_t} (hF : 1000 < F) (hh : h < 6) (hp : ∀ j, p j < 120) (hc : c < 120) (hT : ∀ j, j < h → T.1 67 j = nI (p j)) (hh5 : h ≤ 5) : x8_wasThere F (nI h) (nI c) T = some (nI (zi (wi p c h)), T) := by
  unfold x8_wasThere
  refine lp0 (fun f (a : Int32) i => x8_wasThere_5 F f (nI h) (nI c) a i T) h (fun i a => a = nI (zi (wi p c i))) (fun r => r = some (nI (zi (wi p c h)), T)) (f := F) (a := 0) (by omega) rfl (fun f a ha => ?_) (fun f i a hi ha => Or.inr ⟨_, ?_, rfl⟩)
  · change x8_wasThere_5 F (f + 1) (nI h) (nI c) a (nI h) T = _
    rw [x8_wasThere_5, if_pos (nI_le (by omega) (by omega)), ha, rz_zi]
  · change x8_wasThere_5 F (f + 1) (nI h) (nI c) a (nI i) T = x8_wasThere_5 F f (nI h) (nI c) (nI (zi (wi p c i || decide (p i = c)))) (nI (i + 1)) T
    have := hp i
    rw [x8_wasThere_5, if_neg (nI_ge hi (by omega)), ha, nI_1]
    cases wi p c i with
    | true =>
      rw [if_neg (zi_1 rfl), Bool.true_or]
      rfl
    | false =>
      rw [if_pos (zi_0 rfl), tt_r _ (hT i hi) (by omega) (by omega), Bool.false_or]
      by_cases q : p i = c
      · rw [if_pos (by rw [q]), decide_eq_true q]
        rfl
      · rw [if_neg (fun x => q ((nI_eq (by omega) (by omega)).mp x)), decide_eq_false q]
        rfl
theorem m_80 {F n : Nat} {T : sm_t} {p : Nat → Nat} {rc : Int32 → Int32 → Int32 → Int64 → Int32 → sm_t → Option sm_t} (hF : 1000 < F) (hn : n ≤ 4) (hT : ∀ j, j ≤ n → T.1 67 j = nI (p j)) : ∃ g, x8_dragOn_80 F rc F (nI n) 0 T = some (wf T 68 g) ∧ ∀ j, j ≤ n → g j = nI (p j) := by
  refine lp0 (fun f (a : sm_t) i => x8_dragOn_80 F rc f (nI n) i a) (n + 1) (fun i a => ∃ g, a = wf T 68 g ∧ ∀ j, j < i → g j = nI (p j)) (fun o => ∃ g, o = some (wf T 68 g) ∧ ∀ j, j ≤ n → g j = nI (p j)) (f := F) (a := T) (by omega) ⟨_, wf_id.symm, fun j hj => by omega⟩ (fun f a ha => ?_) (fun f i a hi ha => Or.inr ?_)
  · obtain ⟨g, rfl, hg⟩ := ha
    refine ⟨g, ?_, fun j hj => hg j (by omega)⟩
    change x8_dragOn_80 F rc (f + 1) (nI n) (nI (n + 1)) _ = _
    rw [x8_dragOn_80, if_pos (nI_lt (by omega) (by omega))]
  · obtain ⟨g, rfl, hg⟩ := ha
    refine ⟨wf T 68 (upd g i (nI (p i))), ?_, _, rfl, fun j hj => ?_⟩
    · change x8_dragOn_80 F rc (f + 1) (nI n) (nI i) _ = x8_dragOn_80 F rc f (nI n) (nI (i + 1)) _
      rw [x8_dragOn_80, if_neg (nI_nlt (show i ≤ n by omega) (by omega)), tt_r _ (show (wf T 68 g).1 67 i = nI (p i) by rw [wf_o (by omega)]; exact hT i (by omega)) (by omega) (by omega), tt_wr (by omega) (by omega), wI_f, wf_wf, wf_s, nI_1]
    · by_cases q : j = i
      · rw [q, pk_us]
      · rw [pk_un q]
        exact hg j (by omega)
theorem d_ix : ∀ c, c < 120 → ∀ i, i < 28 → ((nI c - 12) - 1) + nI i + 1 = ((nI c - 12) - 1) + nI (i + 1) ∧ (13 ≤ c + i → ((nI c - 12) - 1) + nI i = nI (c + i - 13)) ∧ (c + i < 13 → ((nI c - 12) - 1) + nI i < 0) ∧ ((nI c + 12) + 1 < ((nI c - 12) - 1) + nI i ↔ i = 27) := by decide +kernel
theorem x_neg {F : Nat} {x : Int32} {S : sm_t} (h : x < 0) : x8_isCell F x S = some (0, S) := m_cell0 (Or.inl (by rw [tt_lt] at h; exact h))
theorem m_dragOn {F n G : Nat} {f : Nat → Nat} {T : sm_t} (hF : 1000 < F) (hn : n ≤ 4) (hG : ∀ c, c < 120 → f c ≤ G) (hG2 : G < 2 ^ 50) (h65 : ∀ c, c < 120 → T.2.1 66 c = lN (f c)) : ∀ r h p s0 b T1 d, h + r = n → (∀ j, p j < 120) → (if wi p (p h) h = true then s0 else s0 + f (p h)) + r * G ≤ 5 * G → dok G b → mS T n h p b T1 → r < d → ∃ T2, x8_dragOn F d (nI h) (nI n) (nI (p h)) (lN s0) (nI (cu p h)) T1 = some T2 ∧ mS T n h p (ds f r h p (if wi p (p h) h = true then s0 else s0 + f (p h)) b) T2 := by
  intro r
  induction r with
  | zero =>
    intro h p s0 b T1 d hr hp hs hb hc hd
    obtain ⟨d, rfl⟩ : ∃ d0, d = d0 + 1 := ⟨d - 1, by omega⟩
    obtain ⟨i1, i2, i3, i4, i5, i6, i7, i8⟩ := hc
    have hph := hp h
    obtain rfl : h = n := by omega
    have e0 : x8_dragOn F (d + 1) (nI h) (nI h) (nI (p h)) (lN s0) (nI (cu p h)) T1 = x8_dragOn_40 F (x8_dragOn F d) (nI h) (nI h) (nI (p h)) (lN (if wi p (p h) h = true then s0 else s0 + f (p h))) (nI (cu p h)) (nI (if wi p (p h) h = true then 0 else 1)) T1 := by
      rw [x8_dragOn, m_was hF (by omega) hp hph i6 (by omega), tt_cI]
      unfold x8_dragOn_25
      cases q : wi p (p h) h with
      | false => rw [if_pos (zi_0 rfl), tt_r _ (show T1.2.1 66 (p h) = lN (f (p h)) by rw [i3 66 (by omega)]; exact h65 _ hph) hph (by omega), tt_n, if_pos (zi_0 rfl), if_neg (by decide), if_neg (by decide), lN_add]; rfl
      | true => rw [if_neg (zi_1 rfl), tt_n, if_neg (zi_1 rfl), if_pos rfl, if_pos rfl, Int64.add_zero]; rfl
    rw [e0]
    generalize hsg : (if wi p (p h) h = true then s0 else s0 + f (p h)) = s at hs ⊢
    unfold x8_dragOn_40
    rw [tt_n, nI_add, show cu p h + (if wi p (p h) h = true then 0 else 1) = cu p (h + 1) from rfl, tt_wr (by omega) (by omega), if_pos rfl, tt_n, tt_2, i7]
    have hcmp := bL_lt (n := s) hb hG2 (by omega)
    have T2ok : ∀ j, j ≤ h → (sm_wI T1 67 h (nI (p h))).1 67 j = nI (p j) := fun j hj => by
      rw [tt_1s]
      by_cases e : j = h
      · rw [if_pos e, e]
      · rw [if_neg e]
        exact i6 j (by omega)
    by_cases q : bL b < lN s
    · have hle : ¬ lN s ≤ bL b := fun x => by
        rw [Int64.lt_iff_toInt_lt] at q
        rw [Int64.le_iff_toInt_le] at x
        omega
      have hlt := hcmp.mp q
      have eb : ds f 0 h p s b = some (s, p) := by
        cases b with
        | none => rfl
        | some x =>
          show (if x.1 < s then some (s, p) else some x) = _
          rw [if_pos (hlt x.1 x.2 rfl)]
      rw [if_neg hle, tt_n, tt_n, eb]
      obtain ⟨g, e, hg⟩ := m_80 (F := F) (n := h) (p := p) (rc := x8_dragOn F d) (T := sm_wI (sm_wL (sm_wI T1 67 h (nI (p h))) 52 26 (lN s)) 52 27 (nI (cu p (h + 1)))) hF hn (fun j hj => by
        rw [tt_1 (by omega)]
        exact T2ok j hj)
      rw [e]
      refine ⟨_, rfl, fun q a1 a2 a3 => ?_, fun i hi => ?_, fun q a1 => ?_, fun i hi => ?_, i5, fun j hj => ?_, ?_, fun w q e => ?_⟩
      · rw [wf_o a3, tt_1 a1]
        show (sm_wI T1 67 h (nI (p h))).1 q = _
        rw [tt_1 a2]
        exact i1 q a1 a2 a3
      · rw [wf_o (by omega), tt_1s, if_neg hi]
        show (sm_wI T1 67 h (nI (p h))).1 52 i = _
        rw [tt_1 (by omega)]
        exact i2 i hi
      · show (sm_wL (sm_wI T1 67 h (nI (p h))) 52 26 (lN s)).2.1 q = _
        rw [tt_4 a1]
        exact i3 q a1
      · show (sm_wL (sm_wI T1 67 h (nI (p h))) 52 26 (lN s)).2.1 52 i = _
        rw [tt_4s, if_neg hi]
        exact i4 i hi
      · rw [wf_o (by omega), tt_1 (by omega)]
        exact T2ok j (by omega)
      · show (sm_wL (sm_wI T1 67 h (nI (p h))) 52 26 (lN s)).2.1 52 26 = lN s
        rw [tt_4s, if_pos rfl]
      · cases e
        refine ⟨?_, fun j hj => ?_⟩
        · rw [wf_o (by omega), tt_1s, if_pos rfl]
        · rw [wf_s]
          exact hg j hj
    · have hle : lN s ≤ bL b := by
        rw [Int64.lt_iff_toInt_lt] at q
        rw [Int64.le_iff_toInt_le]
        omega
      have eb : ds f 0 h p s b = b := by
        cases b with
        | none => exact absurd (hcmp.mpr (fun w q e => (by cases e))) q
        | some x =>
          show (if x.1 < s then some (s, p) else some x) = _
          rw [if_neg]
          exact fun p2 => q (hcmp.mpr (fun w q e => (by cases e; exact p2)))
      rw [if_pos hle, eb]
      refine ⟨_, rfl, fun q a1 a2 a3 => ?_, fun i hi => ?_, i3, i4, i5, fun j hj => T2ok j (by omega), i7, fun w q e => ?_⟩
      · rw [tt_1 a2]
        exact i1 q a1 a2 a3
      · rw [tt_1 (by omega)]
        exact i2 i hi
      · rw [tt_1 (by omega), tt_1 (by omega)]
        exact i8 w q e
  | succ r ih =>
    intro h p s0 b T1 d hr hp hs hb hc hd
    obtain ⟨d, rfl⟩ : ∃ d0, d = d0 + 1 := ⟨d - 1, by omega⟩
    obtain ⟨i1, i2, i3, i4, i5, i6, i7, i8⟩ := hc
    have hph := hp h
    have e0 : x8_dragOn F (d + 1) (nI h) (nI n) (nI (p h)) (lN s0) (nI (cu p h)) T1 = x8_dragOn_40 F (x8_dragOn F d) (nI h) (nI n) (nI (p h)) (lN (if wi p (p h) h = true then s0 else s0 + f (p h))) (nI (cu p h)) (nI (if wi p (p h) h = true then 0 else 1)) T1 := by
      rw [x8_dragOn, m_was hF (by omega) hp hph i6 (by omega), tt_cI]
      unfold x8_dragOn_25
      cases q : wi p (p h) h with
      | false => rw [if_pos (zi_0 rfl), tt_r _ (show T1.2.1 66 (p h) = lN (f (p h)) by rw [i3 66 (by omega)]; exact h65 _ hph) hph (by omega), tt_n, if_pos (zi_0 rfl), if_neg (by decide), if_neg (by decide), lN_add]; rfl
      | true => rw [if_neg (zi_1 rfl), tt_n, if_neg (zi_1 rfl), if_pos rfl, if_pos rfl, Int64.add_zero]; rfl
    rw [e0]
    generalize hsg : (if wi p (p h) h = true then s0 else s0 + f (p h)) = s at hs ⊢
    unfold x8_dragOn_40
    rw [tt_n, nI_add, show cu p h + (if wi p (p h) h = true then 0 else 1) = cu p (h + 1) from rfl, tt_wr (by omega) (by omega), if_neg (fun x => by have := (nI_eq (by omega) (by omega)).mp x; omega), tt_n]
    show ∃ T2, _ = some T2 ∧ mS T n h p (fd (fun d b1 => ds f r (h + 1) (upN p (h + 1) d) (if wi p d (h + 1) = true then s else s + f d) b1) (p h) 120 b) T2
    generalize hgg : (fun d b1 => ds f r (h + 1) (upN p (h + 1) d) (if wi p d (h + 1) = true then s else s + f d) b1) = g
    have hs2 : ∀ d, d < 120 → (if wi p d (h + 1) = true then s else s + f d) + r * G ≤ 5 * G := fun d hd => by
      have := hG d hd
      rw [Nat.succ_mul] at hs
      split <;> omega
    have gok : ∀ d b, d < 120 → dok G b → dok G (g d b) := fun d b hd hb => by
      rw [← hgg]
      exact ds_ok hG _ _ _ _ _ (hs2 d hd) hb
    have T2ok : ∀ j, j ≤ h → (sm_wI T1 67 h (nI (p h))).1 67 j = nI (p j) := fun j hj => by
      rw [tt_1s]
      by_cases e : j = h
      · rw [if_pos e, e]
      · rw [if_neg e]
        exact i6 j (by omega)
    have hfar : ∀ c, (zfar (p h) c ≤ 1 ↔ (p h % 12 ≤ c % 12 + 1 ∧ c % 12 ≤ p h % 12 + 1) ∧ (p h / 12 ≤ c / 12 + 1 ∧ c / 12 ≤ p h / 12 + 1)) := fun c => by
      unfold zfar zd
      omega
    have key : ∃ T2, x8_dragOn_115 F (x8_dragOn F d) F (nI h) (nI n) (nI (p h)) (lN s) (nI (cu p (h + 1))) (((nI (p h) - 12) - 1) + 0) (sm_wI T1 67 h (nI (p h))) = some T2 ∧ mS T n (h + 1) p (fd g (p h) 120 b) T2 := by
      refine lp0 (fun m (a : sm_t) i => x8_dragOn_115 F (x8_dragOn F d) m (nI h) (nI n) (nI (p h)) (lN s) (nI (cu p (h + 1))) (((nI (p h) - 12) - 1) + i) a) 27 (fun i a => mS T n (h + 1) p (fd g (p h) (min (p h + i - 13) 120) b) a) (fun o => ∃ T2, o = some T2 ∧ mS T n (h + 1) p (fd g (p h) 120 b) T2) (f := F) (a := sm_wI T1 67 h (nI (p h))) (by omega) ?_ (fun m a ha => ⟨a, ?_, ?_⟩) (fun m i a hi ha => Or.inr ?_)
      · rw [fd_st (k := 0) _ (by omega) (fun d _ hd => by rw [hfar]; omega)]
        refine ⟨fun q a1 a2 a3 => ?_, fun i hi => ?_, i3, i4, i5, fun j hj => T2ok j (by omega), i7, fun w q e => ?_⟩
        · rw [tt_1 a2]
          exact i1 q a1 a2 a3
        · rw [tt_1 (by omega)]
          exact i2 i hi
        · rw [tt_1 (by omega), tt_1 (by omega)]
          exact i8 w q e
      · change x8_dragOn_115 F (x8_dragOn F d) (m + 1) (nI h) (nI n) (nI (p h)) (lN s) (nI (cu p (h + 1))) (((nI (p h) - 12) - 1) + nI 27) a = _
        rw [x8_dragOn_115, if_pos ((d_ix (p h) hph 27 (by omega)).2.2.2.mpr rfl)]
      · rw [fd_st (k := min (p h + 27 - 13) 120) 120 (by omega) (fun d h1 h2 => by rw [hfar]; omega)]
        exact ha
      · have ix := d_ix (p h) hph i (by omega)
        change ∃ a1, x8_dragOn_115 F (x8_dragOn F d) (m + 1) (nI h) (nI n) (nI (p h)) (lN s) (nI (cu p (h + 1))) (((nI (p h) - 12) - 1) + nI i) a = x8_dragOn_115 F (x8_dragOn F d) m (nI h) (nI n) (nI (p h)) (lN s) (nI (cu p (h + 1))) (((nI (p h) - 12) - 1) + nI (i + 1)) a1 ∧ mS T n (h + 1) p (fd g (p h) (min (p h + (i + 1) - 13) 120) b) a1
        rw [x8_dragOn_115, if_neg (fun x => by have := ix.2.2.2.mp x; omega), ix.1]
        by_cases q1 : p h + i < 13
        · have hneg := ix.2.2.1 q1
          rw [x_neg hneg, tt_cI, if_pos p00]
          refine ⟨a, rfl, ?_⟩
          rw [show min (p h + (i + 1) - 13) 120 = min (p h + i - 13) 120 by omega]
          exact ha
        · rw [ix.2.1 (by omega)]
          by_cases q2 : p h + i - 13 < 120
          · generalize hv : p h + i - 13 = v at q2
            rw [m_cell1 q2, tt_cI, if_neg n10, m_far (by omega) (by omega), tt_cI]
            have hfl := zfar_lt hph q2
            rw [show min (p h + i - 13) 120 = v by omega] at ha
            rw [show min (p h + (i + 1) - 13) 120 = v + 1 by omega]
            by_cases q3 : zfar (p h) v ≤ 1
            · rw [if_neg (show ¬ (1 : Int32) < nI (zfar (p h) v) from nI_nlt (a := 1) q3 (by omega)), nI_1 h]
              obtain ⟨k1, k2, k3, k4, k5, k6, k7, k8⟩ := ha
              have hp2 : ∀ j, upN p (h + 1) v j < 120 := fun j => by
                unfold upN
                split
                · exact q2
                · exact hp j
              have eu : upN p (h + 1) v (h + 1) = v := if_pos rfl
              have el : ∀ j, j < h + 1 → upN p (h + 1) v j = p j := fun j hj => if_neg (by omega)
              have mS1 : mS T n (h + 1) (upN p (h + 1) v) (fd g (p h) v b) a := ⟨k1, k2, k3, k4, k5, fun j hj => by rw [el j hj]; exact k6 j hj, k7, k8⟩
              have okb : dok G (fd g (p h) v b) := fd_ok gok _ _ (by omega) hb
              have ew : wi (upN p (h + 1) v) v (h + 1) = wi p v (h + 1) := wi_c _ el
              have ec : cu (upN p (h + 1) v) (h + 1) = cu p (h + 1) := cu_c _ el
              obtain ⟨T2, e2, c2⟩ := ih (h + 1) (upN p (h + 1) v) s (fd g (p h) v b) a d (by omega) hp2 (by rw [eu, ew]; exact hs2 v q2) okb mS1 (by omega)
              rw [eu, ec] at e2
              rw [eu, ew] at c2
              rw [e2, tt_cV]
              refine ⟨T2, rfl, ?_⟩
              have ef : fd g (p h) (v + 1) b = ds f r (h + 1) (upN p (h + 1) v) (if wi p v (h + 1) = true then s else s + f v) (fd g (p h) v b) := by
                show (if zfar (p h) v ≤ 1 then g v (fd g (p h) v b) else _) = _
                rw [if_pos q3, ← hgg]
              rw [ef]
              obtain ⟨l1, l2, l3, l4, l5, l6, l7, l8⟩ := c2
              exact ⟨l1, l2, l3, l4, l5, fun j hj => by rw [l6 j hj, el j hj], l7, l8⟩
            · rw [if_pos (show (1 : Int32) < nI (zfar (p h) v) from nI_lt (a := 1) (by omega) (by omega))]
              refine ⟨a, rfl, ?_⟩
              have ef : fd g (p h) (v + 1) b = fd g (p h) v b := by
                show (if zfar (p h) v ≤ 1 then g v (fd g (p h) v b) else _) = _
                rw [if_neg q3]
              rw [ef]
              exact ha
          · rw [m_cell0 (by rw [tt_nI (by omega)]; omega), tt_cI, if_pos p00]
            refine ⟨a, rfl, ?_⟩
            rw [show min (p h + (i + 1) - 13) 120 = min (p h + i - 13) 120 by omega]
            exact ha
    obtain ⟨T2, e2, l1, l2, l3, l4, l5, l6, l7, l8⟩ := key
    rw [Int32.add_zero] at e2
    exact ⟨T2, e2, l1, l2, l3, l4, l5, fun j hj => l6 j (by omega), l7, l8⟩
