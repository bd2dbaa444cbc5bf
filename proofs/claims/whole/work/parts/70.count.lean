/-! ===== which signs count; count ===== -/
def zc0 (z : zz) (e : Nat) : Bool := decide (z_sg z e 4 = 0) && decide (z_sg z e 0 ≠ 0)
def zct (z : zz) (o : Int32) (e : Nat) : Bool := decide (¬ nI e = o) && zc0 z e
theorem ne_9 {e : Nat} (he : e < 2147483648) : ¬ nI e = -9 := by
  rw [tt_eq, tt_nI he, tt_neg9]
  omega
theorem zct_9 {z : zz} {e : Nat} (he : e < 2147483648) : zct z (-9) e = zc0 z e := by
  unfold zct
  rw [decide_eq_true (ne_9 he), Bool.true_and]
theorem sg_lt {z : zz} {e : Nat} (hz : zw z) (he : e < z_sn z) : z_sg z e 0 < 8 ∧ z_sg z e 1 < 120 ∧ z_sg z e 2 < 120 ∧ z_sg z e 3 ≤ 12 ∧ z_sg z e 4 ≤ 1 := by
  have h := sg_ok hz he
  unfold zw_sg at h
  omega
theorem x_cts {F e : Nat} {z : zz} {S : sm_t} (hz : zw z) (h : xk z S.1) (he : e < z_sn z) : x6_counts F (24 + e) S = some (nI (zi (zc0 z e)), S) := by
  have hs := sg_lt hz he
  unfold x6_counts zc0
  rw [tt_on (sq_sg hz he), tt_n, tt_n, h.2.1.2 e 4 he (by omega), h.2.1.2 e 0 he (by omega)]
  by_cases q : z_sg z e 4 = 0
  · rw [if_pos (show nI (z_sg z e 4) = 0 by rw [q]; rfl), decide_eq_true q]
    by_cases q1 : z_sg z e 0 = 0
    · rw [if_pos (show nI (z_sg z e 0) = 0 by rw [q1]; rfl), decide_eq_false (fun p => p q1)]
      rfl
    · rw [if_neg (nI_ne0 (by omega) (by omega)), decide_eq_true q1]
      rfl
  · rw [if_neg (nI_ne0 (by omega) (by omega)), decide_eq_false q]
    rfl
theorem m_cts {F e : Nat} {o : Int32} {z : zz} {S : sm_t} (hz : zw z) (h : mk z S.1) (ho : S.1 52 19 = o) (he : e < z_sn z) : x8_counts F (nI e) S = some (nI (zi (zct z o e)), S) := by
  have hs := sg_lt hz he
  have e0 : x8_tell F (nI e) 0 S = some (nI (z_sg z e 0), S) := k_tell hz h he (i := 0) (by omega)
  have e4 : x8_tell F (nI e) 4 S = some (nI (z_sg z e 4), S) := k_tell hz h he (i := 4) (by omega)
  unfold x8_counts zct zc0
  rw [tt_n, ho]
  by_cases q0 : nI e = o
  · rw [if_pos q0, decide_eq_false (fun p => p q0)]
    rfl
  · rw [if_neg q0, decide_eq_true q0, e4, tt_cI, e0, tt_cI]
    by_cases q : z_sg z e 4 = 0
    · rw [if_pos (show nI (z_sg z e 4) = 0 by rw [q]; rfl), decide_eq_true q]
      by_cases q1 : z_sg z e 0 = 0
      · rw [if_pos (show nI (z_sg z e 0) = 0 by rw [q1]; rfl), decide_eq_false (fun p => p q1)]
        rfl
      · rw [if_neg (nI_ne0 (by omega) (by omega)), decide_eq_true q1]
        rfl
    · rw [if_neg (nI_ne0 (by omega) (by omega)), decide_eq_false q]
      rfl
def zbusy (z : zz) : Nat := zs (fun e => zi (zc0 z e)) (z_sn z)
theorem zi_n {b : Bool} {a : Nat} : nI a + nI (zi b) = nI (a + zi b) := nI_add _ _
theorem x_busy {F : Nat} {z : zz} {S : sm_t} (hF : 1000 < F) (hz : zw z) (h : xk z S.1) : x0_busy F S = some (nI (zbusy z), S) := by
  have hn := hz.2.2.2.2.1
  unfold x0_busy zbusy
  refine lp0 (fun f (a : Int32) i => x0_busy_4 F f a i S) (z_sn z) (fun i a => a = nI (zs (fun e => zi (zc0 z e)) i)) (fun o => o = some (nI (zs (fun e => zi (zc0 z e)) (z_sn z)), S)) (by omega) rfl (fun f a ha => ?_) (fun f i a hi ha => Or.inr ⟨_, ?_, rfl⟩)
  · change x0_busy_4 F (f + 1) a (nI (z_sn z)) S = _
    rw [x0_busy_4, tt_n, h.2.1.1, if_pos (nI_le (by omega) (by omega)), ha]
  · change x0_busy_4 F (f + 1) a (nI i) S = x0_busy_4 F f _ (nI (i + 1)) S
    rw [x0_busy_4, tt_n, h.2.1.1, if_neg (nI_ge hi (by omega)), tt_rd (by omega) (by omega), tt_on (sq_sg hz hi), x_cts hz h hi, tt_cI, ha, nI_1 i, zs_s]
    cases zc0 z i with
    | false => rw [if_pos (zi_0 rfl), tt_n, ad_0]; rfl
    | true => rw [if_neg (zi_1 rfl), tt_n, nI_1]; rfl
theorem m_busy {F : Nat} {z : zz} {S : sm_t} (hF : 1000 < F) (hz : zw z) (h : mk z S.1) (ho : S.1 52 19 = -9) : x8_counted F S = some (nI (zbusy z), S) := by
  have hn := hz.2.2.2.2.1
  unfold x8_counted zbusy
  refine lp0 (fun f (a : Int32) i => x8_counted_4 F f a i S) (z_sn z) (fun i a => a = nI (zs (fun e => zi (zc0 z e)) i)) (fun o => o = some (nI (zs (fun e => zi (zc0 z e)) (z_sn z)), S)) (by omega) rfl (fun f a ha => ?_) (fun f i a hi ha => Or.inr ⟨_, ?_, rfl⟩)
  · change x8_counted_4 F (f + 1) a (nI (z_sn z)) S = _
    rw [x8_counted_4, tt_n, h.2.1.1, if_pos (nI_le (by omega) (by omega)), ha]
  · change x8_counted_4 F (f + 1) a (nI i) S = x8_counted_4 F f _ (nI (i + 1)) S
    rw [x8_counted_4, tt_n, h.2.1.1, if_neg (nI_ge hi (by omega)), m_cts hz h ho hi, tt_cI, zct_9 (by omega), ha, nI_1 i, zs_s]
    cases zc0 z i with
    | false => rw [if_pos (zi_0 rfl), tt_n, ad_0]; rfl
    | true => rw [if_neg (zi_1 rfl), tt_n, nI_1]; rfl
theorem zbusy_le {z : zz} : zbusy z ≤ z_sn z := zs_cn _
/-! undone bits -/
def zub (z : zz) : Nat → Nat
  | 0 => 0
  | e + 1 => zub z e + z_sg z e 4 * 2 ^ e
theorem zub_lt {z : zz} (hz : zw z) : ∀ n, n ≤ z_sn z → zub z n < 2 ^ n := by
  intro n
  induction n with
  | zero => intro _; exact Nat.lt_succ_self 0
  | succ n ih =>
    intro h
    have h1 := ih (by omega)
    have h2 := z_un hz (show n < z_sn z by omega)
    change zub z n + z_sg z n 4 * 2 ^ n < 2 ^ (n + 1)
    have h3 : z_sg z n 4 * 2 ^ n ≤ 1 * 2 ^ n := Nat.mul_le_mul_right _ h2
    rw [Nat.pow_succ]
    omega
theorem ub_or : ∀ e, e < 12 → ∀ n, n < 2 ^ e → (nI n ||| 0 = nI n) ∧ (nI n ||| (1 <<< (nI e &&& 31)) = nI (n + 2 ^ e)) := by decide +kernel
theorem ub_sh : ∀ e, e < 12 → (nI 0 <<< (nI e &&& 31) = 0) ∧ (nI 1 <<< (nI e &&& 31) = 1 <<< (nI e &&& 31)) := by decide +kernel
theorem x_bits {F : Nat} {z : zz} {S : sm_t} (hF : 1000 < F) (hz : zw z) (h : xk z S.1) : x0_undoneBits F S = some (nI (zub z (z_sn z)), S) := by
  have hn := hz.2.2.2.2.1
  unfold x0_undoneBits
  refine lp0 (fun f (a : Int32) i => x0_undoneBits_4 F f a i S) (z_sn z) (fun i a => a = nI (zub z i)) (fun o => o = some (nI (zub z (z_sn z)), S)) (by omega) rfl (fun f a ha => ?_) (fun f i a hi ha => Or.inr ⟨_, ?_, rfl⟩)
  · change x0_undoneBits_4 F (f + 1) a (nI (z_sn z)) S = _
    rw [x0_undoneBits_4, tt_n, h.2.1.1, if_pos (nI_le (by omega) (by omega)), ha]
  · change x0_undoneBits_4 F (f + 1) a (nI i) S = x0_undoneBits_4 F f (nI (zub z i + z_sg z i 4 * 2 ^ i)) (nI (i + 1)) S
    have hu := z_un hz hi
    have hb := ub_or i (by omega) (zub z i) (zub_lt hz i (by omega))
    rw [x0_undoneBits_4, tt_n, h.2.1.1, if_neg (nI_ge hi (by omega)), tt_rd (by omega) (by omega), tt_on (sq_sg hz hi), tt_n, h.2.1.2 i 4 hi (by omega), ha, nI_1 i]
    rcases (show z_sg z i 4 = 0 ∨ z_sg z i 4 = 1 by omega) with q | q
    · rw [q, if_pos (by decide), tt_n, hb.1, Nat.zero_mul]
      rfl
    · rw [q, if_neg (by decide), tt_n, hb.2, Nat.one_mul]
theorem m_bits {F : Nat} {z : zz} {S : sm_t} (hF : 1000 < F) (hz : zw z) (h : mk z S.1) : x8_undoneSet F S = some (nI (zub z (z_sn z)), S) := by
  have hn := hz.2.2.2.2.1
  unfold x8_undoneSet
  refine lp0 (fun f (a : Int32) i => x8_undoneSet_4 F f a i S) (z_sn z) (fun i a => a = nI (zub z i)) (fun o => o = some (nI (zub z (z_sn z)), S)) (by omega) rfl (fun f a ha => ?_) (fun f i a hi ha => Or.inr ⟨_, ?_, rfl⟩)
  · change x8_undoneSet_4 F (f + 1) a (nI (z_sn z)) S = _
    rw [x8_undoneSet_4, tt_n, h.2.1.1, if_pos (nI_le (by omega) (by omega)), ha]
  · change x8_undoneSet_4 F (f + 1) a (nI i) S = x8_undoneSet_4 F f (nI (zub z i + z_sg z i 4 * 2 ^ i)) (nI (i + 1)) S
    have hu := z_un hz hi
    have hb := ub_or i (by omega) (zub z i) (zub_lt hz i (by omega))
    have hc := ub_sh i (by omega)
    have e4 : x8_tell F (nI i) 4 S = some (nI (z_sg z i 4), S) := k_tell hz h hi (i := 4) (by omega)
    rw [x8_undoneSet_4, tt_n, h.2.1.1, if_neg (nI_ge hi (by omega)), e4, tt_cI, tt_n, ha, nI_1 i]
    rcases (show z_sg z i 4 = 0 ∨ z_sg z i 4 = 1 by omega) with q | q
    · rw [q, hc.1, hb.1, Nat.zero_mul]
      rfl
    · rw [q, hc.2, hb.2, Nat.one_mul]
def pbc (l0 : Int32) : Int32 := sm_n (ρ := Int32 × Unit) (l0 - ((sm_us l0 1) &&& 1431655765) : Int32) (fun v1 => sm_n ((v1 &&& 858993459) + ((sm_us v1 2) &&& 858993459) : Int32) fun v2 => sm_n ((v2 + (sm_us v2 4)) &&& 252645135 : Int32) fun v3 => sm_n (v3 + (sm_us v3 8) : Int32) fun v4 => sm_n (v4 + (sm_us v4 16) : Int32) fun v5 => some (v5 &&& 63, ())) |>.elim 0 (fun p => p.1)
theorem x_bc {F : Nat} {x : Int32} {S : sm_t} : xJ_bitCount F x S = some (pbc x, S) := rfl
theorem pbc_0 : pbc (nI 0) = nI 0 := by decide +kernel
theorem pbc_1 : ∀ e, e < 12 → ∀ n, n < 2 ^ e → pbc (nI (n + 2 ^ e)) = pbc (nI n) + 1 := by decide +kernel
theorem pbc_2 {z : zz} (hz : zw z) : ∀ n, n ≤ z_sn z → pbc (nI (zub z n)) = nI (zs (fun e => zi (decide (z_sg z e 4 = 1))) n) := by
  have hn := hz.2.2.2.2.1
  intro n
  induction n with
  | zero => exact fun _ => pbc_0
  | succ n ih =>
    intro h
    have h2 := z_un hz (show n < z_sn z by omega)
    change pbc (nI (zub z n + z_sg z n 4 * 2 ^ n)) = _
    rw [zs_s]
    rcases (show z_sg z n 4 = 0 ∨ z_sg z n 4 = 1 by omega) with q | q
    · rw [q, Nat.zero_mul, Nat.add_zero, ih (by omega)]
      rfl
    · rw [q, Nat.one_mul, pbc_1 n (by omega) _ (zub_lt hz n (by omega)), ih (by omega), nI_1]
      rfl
/-! count -/
def zq1 (z : zz) (w k : Nat) : Bool := if w = 1 then decide (1 ≤ k ∧ k < 4) && (z_st z k).isSome else if w = 5 then (z_rs z k).isSome else if w = 6 then decide (k < 4) && (z_ts z k).isSome else false
def zq2 (z : zz) (w e : Nat) : Bool := if w = 2 then true else if w = 3 then decide (z_sg z e 0 = 5 ∨ z_sg z e 0 = 6) else if w = 4 then decide (z_sg z e 4 = 1) else false
def zcnt (z : zz) (w : Nat) : Nat := if w = 0 then z_ho z else zs (fun k => zi (zq1 z w k)) 6 + zs (fun e => zi (zq2 z w e)) (z_sn z)
theorem zs_z {g : Nat → Nat} : ∀ n, (∀ k, k < n → g k = 0) → zs g n = 0 := by
  intro n
  induction n with
  | zero => exact fun _ => rfl
  | succ n ih =>
    intro h
    rw [zs_s, ih (fun k hk => h k (by omega)), h n (by omega)]
theorem zs_c {g g1 : Nat → Nat} : ∀ n, (∀ k, k < n → g k = g1 k) → zs g n = zs g1 n := by
  intro n
  induction n with
  | zero => exact fun _ => rfl
  | succ n ih =>
    intro h
    rw [zs_s, zs_s, ih (fun k hk => h k (by omega)), h n (by omega)]
theorem zs_1 : ∀ n, zs (fun _ => zi true) n = n := by
  intro n
  induction n with
  | zero => rfl
  | succ n ih => rw [zs_s, ih]; rfl
theorem z_x1 {o : Option Nat} {b : Nat} (h : ∀ n, o = some n → n ≤ b) (hb : b < 1000) : (z_x o = -1 ↔ o.isSome = false) ∧ (z_m o < 0 ↔ o.isSome = false) := by
  cases o with
  | none => exact ⟨⟨fun _ => rfl, fun _ => rfl⟩, ⟨fun _ => rfl, fun _ => by decide⟩⟩
  | some n =>
    have := h n rfl
    refine ⟨⟨fun q => ?_, fun q => by cases q⟩, ⟨fun q => ?_, fun q => by cases q⟩⟩
    · change nI n = -1 at q
      rw [tt_eq, tt_nI (by omega), tt_neg1] at q
      omega
    · exact absurd q (nI_pos (n := n) (by omega))
theorem x_many {F a n b : Nat} {o : Nat → Option Nat} {S : sm_t} (hF : 1000 < F) (ha : sm_sq a = some (.inl (.int, n))) (hn : n < 1000) (hb : b < 1000) (ho : ∀ r k, o r = some k → k ≤ b) (h : ∀ r, r < n → S.1 a r = z_x (o r)) : x7_howManyThere F a S = some (nI (zs (fun k => zi (o k).isSome) n), S) := by
  unfold x7_howManyThere
  refine lp0 (fun f (v : Int32) i => x7_howManyThere_4 F f a v i S) n (fun i v => v = nI (zs (fun k => zi (o k).isSome) i)) (fun p => p = some (nI (zs (fun k => zi (o k).isSome) n), S)) (by omega) rfl (fun f v hv => ?_) (fun f i v hi hv => Or.inr ⟨_, ?_, rfl⟩)
  · change x7_howManyThere_4 F (f + 1) a v (nI n) S = _
    rw [x7_howManyThere_4, tt_an ha, if_pos (show Int32.ofNat n ≤ nI n from nI_le (by omega) (by omega)), hv]
  · change x7_howManyThere_4 F (f + 1) a v (nI i) S = x7_howManyThere_4 F f a _ (nI (i + 1)) S
    have hq := (z_x1 (ho i) hb).1
    rw [x7_howManyThere_4, tt_an ha, if_neg (show ¬ Int32.ofNat n ≤ nI i from nI_ge hi (by omega)), tt_r _ (h i hi) hi (by omega), hv, nI_1 i, zs_s]
    cases q : (o i).isSome with
    | false => rw [if_pos (hq.mpr q), tt_n, ad_0]; rfl
    | true => rw [if_neg (fun p => by have := hq.mp p; rw [q] at this; cases this), tt_n, nI_1]; rfl
theorem z_b1 {o : Option (Nat → Nat)} : z_b o = 0 ↔ o.isSome = false := by
  cases o with
  | none => exact ⟨fun _ => rfl, fun _ => rfl⟩
  | some w => exact ⟨fun q => absurd q (show ¬ (1 : Int32) = 0 by decide), fun q => by cases q⟩
theorem x_storyN {F : Nat} {z : zz} {S : sm_t} (hF : 1000 < F) (h : xk z S.1) : x7_storiesThere F S = some (nI (zs (fun k => zi (z_st z (k + 1)).isSome) 3), S) := by
  unfold x7_storiesThere
  refine lp0 (fun f (v : Int32) i => x7_storiesThere_4 F f v i S) 3 (fun i v => v = nI (zs (fun k => zi (z_st z (k + 1)).isSome) i)) (fun p => p = some (nI (zs (fun k => zi (z_st z (k + 1)).isSome) 3), S)) (by omega) rfl (fun f v hv => ?_) (fun f i v hi hv => Or.inr ⟨_, ?_, rfl⟩)
  · change x7_storiesThere_4 F (f + 1) v 3 S = _
    rw [x7_storiesThere_4, if_pos (by decide), hv]
  · change x7_storiesThere_4 F (f + 1) v (nI i) S = x7_storiesThere_4 F f _ (nI (i + 1)) S
    rw [x7_storiesThere_4, if_neg (show ¬ (3 : Int32) ≤ nI i from nI_ge (b := 3) hi (by omega)), tt_r _ (h.2.2 i hi).1 hi (by omega), hv, nI_1 i, zs_s]
    cases q : (z_st z (i + 1)).isSome with
    | false => rw [if_pos (z_b1.mpr q), tt_n, ad_0]; rfl
    | true => rw [if_neg (fun p => by have := z_b1.mp p; rw [q] at this; cases this), tt_n, nI_1]; rfl
theorem x_voices {F : Nat} {z : zz} {S : sm_t} (hF : 1000 < F) (hz : zw z) (h : xk z S.1) : x0_voices F S = some (nI (zs (fun e => zi (decide (z_sg z e 0 = 5 ∨ z_sg z e 0 = 6))) (z_sn z)), S) := by
  have hn := hz.2.2.2.2.1
  unfold x0_voices
  refine lp0 (fun f (v : Int32) i => x0_voices_4 F f v i S) (z_sn z) (fun i v => v = nI (zs (fun e => zi (decide (z_sg z e 0 = 5 ∨ z_sg z e 0 = 6))) i)) (fun p => p = some (nI (zs (fun e => zi (decide (z_sg z e 0 = 5 ∨ z_sg z e 0 = 6))) (z_sn z)), S)) (by omega) rfl (fun f v hv => ?_) (fun f i v hi hv => Or.inr ⟨_, ?_, rfl⟩)
  · change x0_voices_4 F (f + 1) v (nI (z_sn z)) S = _
    rw [x0_voices_4, tt_n, h.2.1.1, if_pos (nI_le (by omega) (by omega)), hv]
  · change x0_voices_4 F (f + 1) v (nI i) S = x0_voices_4 F f _ (nI (i + 1)) S
    have hs := sg_lt hz hi
    rw [x0_voices_4, tt_n, h.2.1.1, if_neg (nI_ge hi (by omega)), tt_rd (by omega) (by omega), tt_on (sq_sg hz hi), hv, nI_1 i, zs_s]
    unfold x6_is
    rw [tt_on (sq_sg hz hi), tt_n, tt_n, h.2.1.2 i 0 hi (by omega)]
    by_cases q5 : z_sg z i 0 = 5
    · rw [if_pos (show nI (z_sg z i 0) = 5 by rw [q5]; rfl), tt_cI, if_neg (by decide), tt_n, nI_1, decide_eq_true (Or.inl q5)]; rfl
    · rw [if_neg (show ¬ nI (z_sg z i 0) = 5 from fun p => q5 ((nI_eq (b := 5) (by omega) (by omega)).mp p))]
      by_cases q6 : z_sg z i 0 = 6
      · rw [if_pos (show nI (z_sg z i 0) = 6 by rw [q6]; rfl), if_pos rfl, tt_cI, if_neg (by decide), tt_n, nI_1, decide_eq_true (Or.inr q6)]; rfl
      · rw [if_neg (show ¬ nI (z_sg z i 0) = 6 from fun p => q6 ((nI_eq (b := 6) (by omega) (by omega)).mp p)), tt_cI, if_pos rfl, tt_n, ad_0, decide_eq_false (by omega)]; rfl
theorem zq2_0 {z : zz} {w : Nat} (hw : w = 1 ∨ w = 5 ∨ w = 6) (n : Nat) : zs (fun e => zi (zq2 z w e)) n = 0 := zs_z n (fun k _ => by
  rcases hw with rfl | rfl | rfl <;> rfl)
theorem zq1_0 {z : zz} {w : Nat} (hw : w = 2 ∨ w = 3 ∨ w = 4) (n : Nat) : zs (fun k => zi (zq1 z w k)) n = 0 := zs_z n (fun k _ => by
  rcases hw with rfl | rfl | rfl <;> rfl)
theorem x_count {F w : Nat} {z : zz} {J S : sm_t} (hF : 1000 < F) (hz : zw z) (hx : xi z J S) (hw : w < 7) : x7_count F (nI w) S = some (nI (zcnt z w), S) := by
  have h := xk_of hx
  unfold x7_count zcnt
  rcases (show w = 0 ∨ w = 1 ∨ w = 2 ∨ w = 3 ∨ w = 4 ∨ w = 5 ∨ w = 6 by omega) with rfl | rfl | rfl | rfl | rfl | rfl | rfl
  · rw [if_neg (by decide), if_pos (by decide), tt_n, h.1.2.1, if_pos rfl]
  · rw [if_neg (by decide), if_neg (by decide), if_pos (by decide), x_storyN hF h, tt_cI, if_neg (by decide), zq2_0 (by omega)]
    change _ = some (nI (0 + zi (zq1 z 1 0) + zi (zq1 z 1 1) + zi (zq1 z 1 2) + zi (zq1 z 1 3) + zi (zq1 z 1 4) + zi (zq1 z 1 5) + 0), S)
    rw [show zq1 z 1 0 = false from rfl, show zq1 z 1 4 = false from rfl, show zq1 z 1 5 = false from rfl]
    rfl
  · rw [if_neg (by decide), if_neg (by decide), if_neg (by decide), if_pos (by decide), tt_n, h.2.1.1, if_neg (by decide), zq1_0 (by omega), show (fun e => zi (zq2 z 2 e)) = (fun _ => zi true) from rfl, zs_1, Nat.zero_add]
  · rw [if_neg (by decide), if_neg (by decide), if_neg (by decide), if_neg (by decide), if_pos (by decide), x_voices hF hz h, tt_cI, if_neg (by decide), zq1_0 (by omega), Nat.zero_add]
    rfl
  · rw [if_neg (by decide), if_neg (by decide), if_neg (by decide), if_neg (by decide), if_neg (by decide), if_pos (by decide), x_bits hF hz h, tt_cI, x_bc, tt_cI, pbc_2 hz _ (Nat.le_refl _), if_neg (by decide), zq1_0 (by omega), Nat.zero_add]
    rfl
  · rw [if_neg (by decide), if_neg (by decide), if_neg (by decide), if_neg (by decide), if_neg (by decide), if_neg (by decide), if_pos (by decide), x_many hF (show sm_sq 11 = some (.inl (.int, 6)) by decide) (by omega) (show 40 < 1000 by omega) hz.1 hx.2.1, tt_cI, if_neg (by decide), zq2_0 (by omega), Nat.add_zero]
    rfl
  · rw [if_neg (by decide), if_neg (by decide), if_neg (by decide), if_neg (by decide), if_neg (by decide), if_neg (by decide), if_neg (by decide), if_pos (by decide), x_many hF (show sm_sq 17 = some (.inl (.int, 4)) by decide) (by omega) (show 80 < 1000 by omega) hz.2.1 hx.2.2.2.1, tt_cI, if_neg (by decide), zq2_0 (by omega), Nat.add_zero]
    change _ = some (nI (zs (fun k => zi (zq1 z 6 k)) 4 + zi (zq1 z 6 4) + zi (zq1 z 6 5)), S)
    rw [show zq1 z 6 4 = false from rfl, show zq1 z 6 5 = false from rfl, zs_c (g1 := fun k => zi (zq1 z 6 k)) 4 (fun k hk => by
      show _ = zi (decide (k < 4) && (z_ts z k).isSome)
      rw [decide_eq_true hk, Bool.true_and])]
    rfl
