/-! ===== drag: the search ===== -/
def upN (p : Nat → Nat) (i v : Nat) : Nat → Nat := fun j => if j = i then v else p j
def wi (p : Nat → Nat) (c : Nat) : Nat → Bool
  | 0 => false
  | k + 1 => wi p c k || decide (p k = c)
def cu (p : Nat → Nat) : Nat → Nat
  | 0 => 0
  | k + 1 => cu p k + (if wi p (p k) k = true then 0 else 1)
theorem wi_c {p q : Nat → Nat} {c : Nat} : ∀ k, (∀ j, j < k → p j = q j) → wi p c k = wi q c k := by
  intro k
  induction k with
  | zero => exact fun _ => rfl
  | succ k ih =>
    intro h
    show (wi p c k || decide (p k = c)) = (wi q c k || decide (q k = c))
    rw [ih (fun j hj => h j (by omega)), h k (by omega)]
theorem cu_c {p q : Nat → Nat} : ∀ k, (∀ j, j < k → p j = q j) → cu p k = cu q k := by
  intro k
  induction k with
  | zero => exact fun _ => rfl
  | succ k ih =>
    intro h
    show cu p k + (if wi p (p k) k = true then 0 else 1) = cu q k + (if wi q (q k) k = true then 0 else 1)
    rw [ih (fun j hj => h j (by omega)), h k (by omega), wi_c k (fun j hj => h j (by omega))]
theorem cu_le {p : Nat → Nat} : ∀ k, cu p k ≤ k := by
  intro k
  induction k with
  | zero => exact Nat.le_refl 0
  | succ k ih =>
    show cu p k + (if wi p (p k) k = true then 0 else 1) ≤ k + 1
    split <;> omega
abbrev dB : Type := Option (Nat × (Nat → Nat))
def fd (g : Nat → dB → dB) (c : Nat) : Nat → dB → dB
  | 0, b => b
  | i + 1, b => if zfar c i ≤ 1 then g i (fd g c i b) else fd g c i b
def ds (f : Nat → Nat) : Nat → Nat → (Nat → Nat) → Nat → dB → dB
  | 0, _, p, s, b => match b with
    | some q => if q.1 < s then some (s, p) else some q
    | none => some (s, p)
  | r + 1, h, p, s, b => fd (fun d b1 => ds f r (h + 1) (upN p (h + 1) d) (if wi p d (h + 1) = true then s else s + f d) b1) (p h) 120 b
theorem fd_st {g : Nat → dB → dB} {c : Nat} {b : dB} {k : Nat} : ∀ m, k ≤ m → (∀ d, k ≤ d → d < m → ¬ zfar c d ≤ 1) → fd g c m b = fd g c k b := by
  intro m
  induction m with
  | zero =>
    intro h _
    obtain rfl : k = 0 := by omega
    rfl
  | succ m ih =>
    intro h hd
    by_cases q : k = m + 1
    · rw [q]
    · show (if zfar c m ≤ 1 then g m (fd g c m b) else fd g c m b) = _
      rw [if_neg (hd m (by omega) (by omega)), ih (by omega) (fun d h1 h2 => hd d h1 (by omega))]
theorem fd_id {g : Nat → dB → dB} {c : Nat} {b : dB} : ∀ m, (∀ d, d < m → g d b = b) → fd g c m b = b := by
  intro m
  induction m with
  | zero => exact fun _ => rfl
  | succ m ih =>
    intro h
    show (if zfar c m ≤ 1 then g m (fd g c m b) else fd g c m b) = b
    rw [ih (fun d hd => h d (by omega)), h m (by omega)]
    split <;> rfl
/-- what can't do better changes nothing -/
theorem ds_pr {f : Nat → Nat} {G w : Nat} {q : Nat → Nat} (hG : ∀ c, c < 120 → f c ≤ G) : ∀ r h p s, s + r * G ≤ w → ds f r h p s (some (w, q)) = some (w, q) := by
  intro r
  induction r with
  | zero =>
    intro h p s hs
    show (if w < s then some (s, p) else some (w, q)) = _
    rw [if_neg (by omega)]
  | succ r ih =>
    intro h p s hs
    rw [Nat.succ_mul] at hs
    refine fd_id 120 (fun d hd => ih _ _ _ ?_)
    have := hG d hd
    split <;> omega
/-- a best that there is, and what it weighs -/
def dok (G : Nat) (b : dB) : Prop := ∀ w q, b = some (w, q) → w ≤ 5 * G
theorem fd_ok {g : Nat → dB → dB} {c G : Nat} (h : ∀ d b, d < 120 → dok G b → dok G (g d b)) : ∀ m b, m ≤ 120 → dok G b → dok G (fd g c m b) := by
  intro m
  induction m with
  | zero => exact fun b _ hb => hb
  | succ m ih =>
    intro b hm hb
    show dok G (if zfar c m ≤ 1 then g m (fd g c m b) else fd g c m b)
    split
    · exact h m _ (by omega) (ih b (by omega) hb)
    · exact ih b (by omega) hb
theorem ds_ok {f : Nat → Nat} {G : Nat} (hG : ∀ c, c < 120 → f c ≤ G) : ∀ r h p s b, s + r * G ≤ 5 * G → dok G b → dok G (ds f r h p s b) := by
  intro r
  induction r with
  | zero =>
    intro h p s b hs hb
    cases b with
    | none =>
      intro w q e
      cases e
      omega
    | some x =>
      show dok G (if x.1 < s then some (s, p) else some x)
      split
      · intro w q e
        cases e
        omega
      · exact hb
  | succ r ih =>
    intro h p s b hs hb
    rw [Nat.succ_mul] at hs
    refine fd_ok (fun d b1 hd hb1 => ih _ _ _ _ ?_ hb1) 120 b (Nat.le_refl 120) hb
    have := hG d hd
    split <;> omega
theorem fd_so {g : Nat → dB → dB} {c : Nat} (hg : ∀ d b, (g d b).isSome = true) (hc : c < 120) : ∀ b, (fd g c 120 b).isSome = true := by
  intro b
  have h1 : ∀ m, c < m → (fd g c m b).isSome = true := by
    intro m
    induction m with
    | zero => intro h; omega
    | succ m ih =>
      intro h
      show (if zfar c m ≤ 1 then g m (fd g c m b) else fd g c m b).isSome = true
      split
      · exact hg _ _
      · next q =>
        by_cases e : c = m
        · exfalso
          apply q
          rw [e]
          unfold zfar zd
          omega
        · exact ih (by omega)
  exact h1 120 hc
theorem ds_so {f : Nat → Nat} : ∀ r h p s b, (∀ j, p j < 120) → (ds f r h p s b).isSome = true := by
  intro r
  induction r with
  | zero =>
    intro h p s b hp
    cases b with
    | none => rfl
    | some x =>
      show (if x.1 < s then some (s, p) else some x).isSome = true
      split <;> rfl
  | succ r ih =>
    intro h p s b hp
    have h1 : ∀ m b, p h < m → m ≤ 120 → (fd (fun d b1 => ds f r (h + 1) (upN p (h + 1) d) (if wi p d (h + 1) = true then s else s + f d) b1) (p h) m b).isSome = true := by
      intro m
      induction m with
      | zero => intro b h; omega
      | succ m im =>
        intro b hm hm2
        show (if zfar (p h) m ≤ 1 then ds f r (h + 1) (upN p (h + 1) m) (if wi p m (h + 1) = true then s else s + f m) (fd _ (p h) m b) else fd _ (p h) m b).isSome = true
        split
        · exact ih _ _ _ _ (fun j => by
            unfold upN
            split
            · omega
            · exact hp j)
        · next q =>
          by_cases e : p h = m
          · exfalso
            apply q
            rw [e]
            unfold zfar zd
            omega
          · exact im b (by omega) (by omega)
    exact h1 120 b (hp h) (Nat.le_refl 120)
/-! the class -/
def bL (b : dB) : Int64 := match b with
  | some q => lN q.1
  | none => -1
def cS (S : sm_t) (n h : Nat) (p : Nat → Nat) (b : dB) (S1 : sm_t) : Prop := (∀ q, q ≠ 49 → q ≠ 50 → S1.1 q = S.1 q) ∧ (∀ q, q ≠ 48 → S1.2.1 q = S.2.1 q) ∧ S1.2.2 = S.2.2 ∧ (∀ j, j ≤ h → S1.1 50 j = nI (p j)) ∧ S1.2.1 48 2 = bL b ∧ (∀ w q, b = some (w, q) → ∀ j, j ≤ n → S1.1 49 j = nI (q j))
theorem x_was {F a h c : Nat} {p : Nat → Nat} {S : sm_t} (hF : 1000 < F) (ha : sm_sq a = some (.inl (.int, 5))) (hh : h < 5) (hp : ∀ j, j ≤ h → p j < 120) (hc : c < 120) (hS : ∀ j, j ≤ h → S.1 a j = nI (p j)) : x5_wasIn F a (nI c) (nI h) S = some (nI (zi (wi p c (h + 1))), S) := by
  unfold x5_wasIn
  have key : ∀ m i, i ≤ m → wi p c i = true → wi p c m = true := by
    intro m
    induction m with
    | zero =>
      intro i hi hw
      obtain rfl : i = 0 := by omega
      exact hw
    | succ m ih =>
      intro i hi hw
      by_cases e : i = m + 1
      · rw [← e]
        exact hw
      · show (wi p c m || decide (p m = c)) = true
        rw [ih i (by omega) hw, Bool.true_or]
  refine lp0 (fun f (_ : Unit) i => x5_wasIn_2 F f a (nI c) (nI h) i S) (h + 1) (fun i _ => wi p c i = false) (fun r => r = some (nI (zi (wi p c (h + 1))), S)) (f := F) (a := ()) (by omega) rfl (fun f _ hw => ?_) (fun f i _ hi hw => ?_)
  · change x5_wasIn_2 F (f + 1) a (nI c) (nI h) (nI (h + 1)) S = _
    rw [x5_wasIn_2, if_pos (nI_lt (by omega) (by omega)), hw]
    rfl
  · change x5_wasIn_2 F (f + 1) a (nI c) (nI h) (nI i) S = _ ∨ ∃ _ : Unit, x5_wasIn_2 F (f + 1) a (nI c) (nI h) (nI i) S = x5_wasIn_2 F f a (nI c) (nI h) (nI (i + 1)) S ∧ (wi p c i || decide (p i = c)) = false
    have := hp i (by omega)
    rw [x5_wasIn_2, if_neg (nI_nlt (show i ≤ h by omega) (by omega)), tt_an ha, tt_r _ (hS i (by omega)) (by omega) (by omega), nI_1]
    by_cases q : p i = c
    · rw [if_pos (by rw [q])]
      left
      have e : wi p c (h + 1) = true := key (h + 1) (i + 1) (by omega) (by
        show (wi p c i || decide (p i = c)) = true
        rw [decide_eq_true q, Bool.or_true])
      rw [e]
      rfl
    · rw [if_neg (fun x => q ((nI_eq (by omega) (by omega)).mp x))]
      exact Or.inr ⟨(), rfl, by rw [hw, decide_eq_false q]; rfl⟩
theorem sq_48 : sm_sq 49 = some (.inl (.int, 5)) := by decide
theorem sq_49 : sm_sq 50 = some (.inl (.int, 5)) := by decide
theorem bL_lt {G n : Nat} {b : dB} (hb : dok G b) (hG : G < 2 ^ 50) (hn : n < 2 ^ 62) : (bL b < lN n ↔ ∀ w q, b = some (w, q) → w < n) := by
  cases b with
  | none =>
    refine ⟨fun _ w q e => (by cases e), fun _ => ?_⟩
    show (-1 : Int64) < lN n
    rw [Int64.lt_iff_toInt_lt, pk_lT (by omega)]
    show (-1 : Int) < n
    omega
  | some x =>
    obtain ⟨w, q⟩ := x
    have := hb w q rfl
    show lN w < lN n ↔ _
    rw [pk_lLT (by omega) (by omega)]
    refine ⟨fun h w' q' e => (by cases e; exact h), fun h => h w q rfl⟩
theorem mx_1 {x : Nat} (hx : x < 1000) : sm_mx (nI x - 1) 0 = nI (x - 1) := by
  unfold sm_mx
  by_cases q : x = 0
  · rw [q]
    rfl
  · have e : nI x - 1 = nI (x - 1) := pk_sub (b := 1) (by omega)
    rw [e, if_neg (nI_pos (by omega))]
theorem x_sail {F n G : Nat} {f : Nat → Nat} {S : sm_t} (hF : 1000 < F) (hn : n ≤ 4) (hG : ∀ c, c < 120 → f c ≤ G) (hG2 : G < 2 ^ 50) (h47 : S.1 48 3 = nI n) (h40 : ∀ c, c < 120 → S.2.1 40 c = lN (f c)) : ∀ r h p s b S1 d, h + r = n → (∀ j, p j < 120) → s ≤ (h + 1) * G → dok G b → cS S n h p b S1 → r < d → ∃ S2, x5_sail F d (lN G) (nI h) (lN s) S1 = some S2 ∧ cS S n h p (ds f r h p s b) S2 := by
  intro r
  induction r with
  | zero =>
    intro h p s b S1 d hr hp hs hb hc hd
    obtain ⟨d, rfl⟩ : ∃ d0, d = d0 + 1 := ⟨d - 1, by omega⟩
    obtain ⟨i1, i2, i3, i4, i5, i6⟩ := hc
    have hs2 : s ≤ 5 * G := Nat.le_trans hs (Nat.mul_le_mul_right _ (by omega))
    have e1 : nI n - nI h = nI 0 := by rw [pk_sub (by omega), show n - h = 0 by omega]
    rw [x5_sail, tt_n, i1 48 (by omega) (by omega), h47, tt_n, e1, tt_n, i5, show (nI 0).toInt64 = lN 0 from rfl, lN_mul, lN_add, Nat.zero_mul, Nat.add_zero]
    have hcmp := bL_lt (n := s) hb hG2 (by omega)
    by_cases q : bL b < lN s
    · have hlt := hcmp.mp q
      rw [if_pos q, if_pos (show nI 0 ≤ 0 by decide), tt_n, show (0 : Int32) = nI 0 from rfl, nI_1, tt_cp (by omega) (by omega) (by omega) (by omega)]
      have eb : ds f 0 h p s b = some (s, p) := by
        cases b with
        | none => rfl
        | some x =>
          show (if x.1 < s then some (s, p) else some x) = _
          rw [if_pos (hlt x.1 x.2 rfl)]
      rw [eb]
      refine ⟨_, rfl, fun q h1 h2 => ?_, fun q h1 => ?_, i3, fun j hj => ?_, ?_, fun w q e j hj => ?_⟩
      · rw [wf_o h1]
        exact i1 q h1 h2
      · show (sm_wL S1 48 2 (lN s)).2.1 q = S.2.1 q
        rw [tt_4 h1]
        exact i2 q h1
      · rw [wf_o (by omega)]
        exact i4 j hj
      · show (sm_wL S1 48 2 (lN s)).2.1 48 2 = lN s
        rw [tt_4s, if_pos rfl]
      · cases e
        rw [wf_s, pk_cpy_in (by omega) (by omega), show 0 + (j - 0) = j by omega]
        exact i4 j (by omega)
    · rw [if_neg q]
      have eb : ds f 0 h p s b = b := by
        cases b with
        | none => exact absurd (hcmp.mpr (fun w q e => by cases e)) q
        | some x =>
          show (if x.1 < s then some (s, p) else some x) = _
          rw [if_neg]
          exact fun p2 => q (hcmp.mpr (fun w q e => by cases e; exact p2))
      rw [eb]
      exact ⟨S1, rfl, i1, i2, i3, i4, i5, i6⟩
  | succ r ih =>
    intro h p s b S1 d hr hp hs hb hc hd
    obtain ⟨d, rfl⟩ : ∃ d0, d = d0 + 1 := ⟨d - 1, by omega⟩
    obtain ⟨i1, i2, i3, i4, i5, i6⟩ := id hc
    have hb5 : s + (r + 1) * G ≤ 5 * G := by
      have : (h + 1) * G + (r + 1) * G = (h + 1 + (r + 1)) * G := (Nat.add_mul _ _ _).symm
      have : (h + 1 + (r + 1)) * G ≤ 5 * G := Nat.mul_le_mul_right _ (by omega)
      omega
    have e1 : nI n - nI h = nI (r + 1) := by rw [pk_sub (by omega), show n - h = r + 1 by omega]
    have hph := hp h
    rw [x5_sail, tt_n, i1 48 (by omega) (by omega), h47, tt_n, e1, tt_n, i5, nI_l (by omega), lN_mul, lN_add]
    have hcmp := bL_lt (n := s + (r + 1) * G) hb hG2 (by omega)
    by_cases q : bL b < lN (s + (r + 1) * G)
    · rw [if_pos q, if_neg (nI_nle (by omega) (by omega)), if_pos (show nI h < 4 from nI_lt (b := 4) (by omega) (by omega)), tt_r _ (i4 h (Nat.le_refl h)) (by omega) (by omega), tt_n, tt_r _ (i4 h (Nat.le_refl h)) (by omega) (by omega), tt_n, tt_n, tt_r12 (by omega), tt_d12 (by omega), mx_1 (by omega)]
      show ∃ S2, x5_sail_95 F (x5_sail F d) F (lN G) (nI h) (lN s) (nI (p h % 12)) (nI (p h / 12)) (nI (p h / 12 - 1)) S1 = some S2 ∧ cS S n h p (fd (fun d b1 => ds f r (h + 1) (upN p (h + 1) d) (if wi p d (h + 1) = true then s else s + f d) b1) (p h) 120 b) S2
      generalize hgg : (fun d b1 => ds f r (h + 1) (upN p (h + 1) d) (if wi p d (h + 1) = true then s else s + f d) b1) = g
      have gok : ∀ d b, d < 120 → dok G b → dok G (g d b) := fun d b hd hb => by
        rw [← hgg]
        refine ds_ok hG _ _ _ _ _ ?_ hb
        have := hG d hd
        rw [Nat.succ_mul] at hb5
        split <;> omega
      have hfar : ∀ c, (zfar (p h) c ≤ 1 ↔ (p h % 12 ≤ c % 12 + 1 ∧ c % 12 ≤ p h % 12 + 1) ∧ (p h / 12 ≤ c / 12 + 1 ∧ c / 12 ≤ p h / 12 + 1)) := fun c => by
        unfold zfar zd
        omega
      have hst : ∀ k m, k ≤ m → (∀ d, k ≤ d → d < m → ¬ zfar (p h) d ≤ 1) → fd g (p h) m b = fd g (p h) k b := fun k m h1 h2 => fd_st m h1 h2
      -- the rows
      refine lpi (fun m (a : sm_t) i => x5_sail_95 F (x5_sail F d) m (lN G) (nI h) (lN s) (nI (p h % 12)) (nI (p h / 12)) i a) (min (p h / 12 + 2) 10) (p h / 12 - 1) (fun i a => p h / 12 - 1 ≤ i ∧ cS S n h p (fd g (p h) (12 * i + (p h % 12 - 1)) b) a) (fun o => ∃ S2, o = some S2 ∧ cS S n h p (fd g (p h) 120 b) S2) (f := F) (a := S1) (by omega) (by omega) ⟨Nat.le_refl _, ?_⟩ (fun m a ha => ⟨a, ?_, ?_⟩) (fun m y a hy ha => Or.inr ?_)
      · rw [hst 0 _ (by omega) (fun d _ hd => by rw [hfar]; omega)]
        exact hc
      · change x5_sail_95 F (x5_sail F d) (m + 1) (lN G) (nI h) (lN s) (nI (p h % 12)) (nI (p h / 12)) (nI (min (p h / 12 + 2) 10)) a = _
        rw [x5_sail_95, nI_1]
        by_cases q2 : p h / 12 + 2 ≤ 10
        · rw [if_pos (nI_lt (by omega) (by omega))]
        · rw [if_neg (nI_nlt (by omega) (by omega)), if_pos (show (10 : Int32) ≤ nI (min (p h / 12 + 2) 10) from nI_le (a := 10) (by omega) (by omega))]
      · have e : fd g (p h) 120 b = fd g (p h) (12 * min (p h / 12 + 2) 10 + (p h % 12 - 1)) b := by
          by_cases q2 : 12 * min (p h / 12 + 2) 10 + (p h % 12 - 1) ≤ 120
          · exact hst _ _ q2 (fun d h1 h2 => by rw [hfar]; omega)
          · exact (hst 120 _ (by omega) (fun d h1 h2 => by rw [hfar]; omega)).symm
        rw [e]
        exact ha.2
      · change ∃ a1, x5_sail_95 F (x5_sail F d) (m + 1) (lN G) (nI h) (lN s) (nI (p h % 12)) (nI (p h / 12)) (nI y) a = x5_sail_95 F (x5_sail F d) m (lN G) (nI h) (lN s) (nI (p h % 12)) (nI (p h / 12)) (nI (y + 1)) a1 ∧ p h / 12 - 1 ≤ y + 1 ∧ cS S n h p (fd g (p h) (12 * (y + 1) + (p h % 12 - 1)) b) a1
        obtain ⟨hy1, ha⟩ := ha
        rw [x5_sail_95, nI_1, if_neg (nI_nlt (by omega) (by omega)), if_neg (show ¬ (10 : Int32) ≤ nI y from nI_ge (b := 10) (by omega) (by omega)), tt_n, mx_1 (by omega)]
        have key : ∃ a1, x5_sail_121 F (x5_sail F d) (x5_sail_95 F (x5_sail F d) m) F (lN G) (nI h) (lN s) (nI (p h % 12)) (nI (p h / 12)) (nI y) (nI (p h % 12 - 1)) a = x5_sail_95 F (x5_sail F d) m (lN G) (nI h) (lN s) (nI (p h % 12)) (nI (p h / 12)) (nI (y + 1)) a1 ∧ cS S n h p (fd g (p h) (12 * (y + 1) + (p h % 12 - 1)) b) a1 := by
          refine lpi (fun m1 (a : sm_t) i => x5_sail_121 F (x5_sail F d) (x5_sail_95 F (x5_sail F d) m) m1 (lN G) (nI h) (lN s) (nI (p h % 12)) (nI (p h / 12)) (nI y) i a) (min (p h % 12 + 2) 12) (p h % 12 - 1) (fun i a => p h % 12 - 1 ≤ i ∧ cS S n h p (fd g (p h) (12 * y + i) b) a) (fun o => ∃ a1, o = x5_sail_95 F (x5_sail F d) m (lN G) (nI h) (lN s) (nI (p h % 12)) (nI (p h / 12)) (nI (y + 1)) a1 ∧ cS S n h p (fd g (p h) (12 * (y + 1) + (p h % 12 - 1)) b) a1) (f := F) (a := a) (by omega) (by omega) ⟨Nat.le_refl _, ha⟩ (fun m1 a hb1 => ⟨a, ?_, ?_⟩) (fun m1 i a hi hb1 => Or.inr ?_)
          · change x5_sail_121 F (x5_sail F d) (x5_sail_95 F (x5_sail F d) m) (m1 + 1) (lN G) (nI h) (lN s) (nI (p h % 12)) (nI (p h / 12)) (nI y) (nI (min (p h % 12 + 2) 12)) a = _
            rw [x5_sail_121, nI_1, nI_1]
            by_cases q2 : p h % 12 + 2 ≤ 12
            · rw [if_pos (nI_lt (by omega) (by omega))]
            · rw [if_neg (nI_nlt (by omega) (by omega)), if_pos (show (12 : Int32) ≤ nI (min (p h % 12 + 2) 12) from nI_le (a := 12) (by omega) (by omega))]
          · rw [hst (12 * y + min (p h % 12 + 2) 12) (12 * (y + 1) + (p h % 12 - 1)) (by omega) (fun d h1 h2 => by rw [hfar]; omega)]
            exact hb1.2
          · obtain ⟨hi1, j1, j2, j3, j4, j5, j6⟩ := hb1
            have hv : 12 * y + i < 120 := by omega
            have hnear : zfar (p h) (12 * y + i) ≤ 1 := by
              rw [hfar]
              omega
            have hp2 : ∀ j, upN p (h + 1) (12 * y + i) j < 120 := fun j => by
              unfold upN
              split
              · exact hv
              · exact hp j
            have cS1 : cS S n (h + 1) (upN p (h + 1) (12 * y + i)) (fd g (p h) (12 * y + i) b) (sm_wI a 50 (h + 1) (nI (12 * y + i))) := by
              refine ⟨fun q h1 h2 => ?_, j2, j3, fun j hj => ?_, j5, fun w q e j hj => ?_⟩
              · rw [tt_1 h2]
                exact j1 q h1 h2
              · rw [tt_1s]
                unfold upN
                by_cases e : j = h + 1
                · rw [if_pos e, if_pos e]
                · rw [if_neg e, if_neg e]
                  exact j4 j (by omega)
              · rw [tt_1 (by omega)]
                exact j6 w q e j hj
            have hfv := hG (12 * y + i) hv
            have okb : dok G (fd g (p h) (12 * y + i) b) := fd_ok gok _ _ (by omega) hb
            have hs3 : (if wi p (12 * y + i) (h + 1) = true then s else s + f (12 * y + i)) ≤ (h + 1 + 1) * G := by
              have e : (h + 1 + 1) * G = (h + 1) * G + G := Nat.succ_mul _ _
              rw [e]
              split <;> omega
            obtain ⟨S2, e2, c2⟩ := ih (h + 1) (upN p (h + 1) (12 * y + i)) (if wi p (12 * y + i) (h + 1) = true then s else s + f (12 * y + i)) (fd g (p h) (12 * y + i) b) (sm_wI a 50 (h + 1) (nI (12 * y + i))) d (by omega) hp2 hs3 okb cS1 (by omega)
            have wz : x5_wasIn F 50 (nI (12 * y + i)) (nI h) (sm_wI a 50 (h + 1) (nI (12 * y + i))) = some (nI (zi (wi p (12 * y + i) (h + 1))), sm_wI a 50 (h + 1) (nI (12 * y + i))) := x_was hF sq_49 (by omega) (fun j _ => hp j) hv (fun j hj => by
              rw [tt_1s, if_neg (by omega)]
              exact j4 j hj)
            have ef : fd g (p h) (12 * y + (i + 1)) b = ds f r (h + 1) (upN p (h + 1) (12 * y + i)) (if wi p (12 * y + i) (h + 1) = true then s else s + f (12 * y + i)) (fd g (p h) (12 * y + i) b) := by
              show (if zfar (p h) (12 * y + i) ≤ 1 then g (12 * y + i) (fd g (p h) (12 * y + i) b) else _) = _
              rw [if_pos hnear, ← hgg]
            refine ⟨S2, ?_, by omega, ?_⟩
            · change x5_sail_121 F (x5_sail F d) (x5_sail_95 F (x5_sail F d) m) (m1 + 1) (lN G) (nI h) (lN s) (nI (p h % 12)) (nI (p h / 12)) (nI y) (nI i) a = x5_sail_121 F (x5_sail F d) (x5_sail_95 F (x5_sail F d) m) m1 (lN G) (nI h) (lN s) (nI (p h % 12)) (nI (p h / 12)) (nI y) (nI (i + 1)) S2
              rw [x5_sail_121, nI_1 (p h % 12), if_neg (nI_nlt (by omega) (by omega)), if_neg (show ¬ (12 : Int32) ≤ nI i from nI_ge (b := 12) (by omega) (by omega)), tt_n, tk_n12, nI_add, show y * 12 + i = 12 * y + i by omega, nI_1 h, tt_wr (by omega) (by omega), wz, tt_cI, nI_1 i]
              cases q3 : wi p (12 * y + i) (h + 1) with
              | false =>
                rw [q3, if_neg (by decide)] at e2
                rw [if_pos (zi_0 rfl), tt_r _ (show (sm_wI a 50 (h + 1) (nI (12 * y + i))).2.1 40 (12 * y + i) = lN (f (12 * y + i)) by
                  show a.2.1 40 _ = _
                  rw [j2 40 (by omega)]
                  exact h40 _ hv) hv (by omega), lN_add, e2, tt_cV]
              | true =>
                rw [q3, if_pos rfl] at e2
                rw [if_neg (zi_1 rfl), e2, tt_cV]
            · rw [ef]
              obtain ⟨k1, k2, k3, k4, k5, k6⟩ := c2
              refine ⟨k1, k2, k3, fun j hj => ?_, k5, k6⟩
              rw [k4 j (by omega)]
              unfold upN
              rw [if_neg (by omega)]
        obtain ⟨a1, e1, c1⟩ := key
        exact ⟨a1, e1, by omega, c1⟩
    · rw [if_neg q]
      have eb : ds f (r + 1) h p s b = b := by
        cases b with
        | none => exact absurd (hcmp.mpr (fun w q e => (by cases e))) q
        | some x =>
          obtain ⟨w, qq⟩ := x
          refine ds_pr hG _ _ _ _ ?_
          rcases Nat.lt_or_ge w (s + (r + 1) * G) with h1 | h1
          · exact absurd (hcmp.mpr (fun w' q' e => (by cases e; exact h1))) q
          · exact h1
      rw [eb]
      exact ⟨S1, rfl, hc⟩
