/-! ===== sums and bounds ===== -/
theorem zs_add {f g : Nat → Nat} : ∀ n, zs (fun k => f k + g k) n = zs f n + zs g n := by
  intro n
  induction n with
  | zero => rfl
  | succ n ih =>
    rw [zs_s, zs_s, zs_s, ih]
    omega
theorem zs_mul {f : Nat → Nat} {x : Nat} : ∀ n, zs (fun k => f k * x) n = zs f n * x := by
  intro n
  induction n with
  | zero => exact (Nat.zero_mul x).symm
  | succ n ih => rw [zs_s, zs_s, ih, Nat.add_mul]
theorem zs_swap {f : Nat → Nat → Nat} {m : Nat} : ∀ n, zs (fun i => zs (fun j => f i j) m) n = zs (fun j => zs (fun i => f i j) n) m := by
  intro n
  induction n with
  | zero => exact (zs_z m (fun k _ => rfl)).symm
  | succ n ih =>
    rw [zs_s, ih]
    exact (zs_add m).symm
theorem zs_le1 {f : Nat → Nat} {i : Nat} : ∀ n, i < n → f i ≤ zs f n := by
  intro n
  induction n with
  | zero => intro h; omega
  | succ n ih =>
    intro h
    rw [zs_s]
    by_cases q : i = n
    · rw [q]
      omega
    · have := ih (by omega)
      omega
theorem zs_0 {f : Nat → Nat} {n : Nat} (h : zs f n = 0) : ∀ i, i < n → f i = 0 := fun i hi => by
  have := zs_le1 (f := f) n hi
  omega
theorem zs_ad {v g : Nat → Nat} {p x : Nat} : ∀ n, p < n → zs (fun d => ad v p x d * g d) n = zs (fun d => v d * g d) n + x * g p := by
  intro n
  induction n with
  | zero => intro h; omega
  | succ n ih =>
    intro h
    rw [zs_s, zs_s]
    unfold ad at ih ⊢
    by_cases q : n = p
    · rw [if_pos q, q, Nat.add_mul]
      have : zs (fun d => (if d = p then v d + x else v d) * g d) p = zs (fun d => v d * g d) p := zs_c p (fun k hk => by rw [if_neg (by omega)])
      rw [this]
      omega
    · rw [if_neg q, ih (by omega)]
      omega
theorem zsp_adj {N g : Nat → Nat} {s : Nat} (hs : s < 8) : ∀ i, i ≤ 120 → zs (fun d => zsp N s i d * g d) 120 = zs (fun c => N c * (2 * g (zgo c s) + g (zgo c ((s + 7) % 8)) + g (zgo c ((s + 1) % 8)))) i := by
  intro i
  induction i with
  | zero =>
    intro _
    refine zs_z 120 (fun k _ => ?_)
    show 0 * g k = 0
    omega
  | succ i ih =>
    intro hi
    have h1 := zgo_lt (show i < 120 by omega) hs
    have h2 := zgo_lt (show i < 120 by omega) (show (s + 7) % 8 < 8 from Nat.mod_lt _ (by omega))
    have h3 := zgo_lt (show i < 120 by omega) (show (s + 1) % 8 < 8 from Nat.mod_lt _ (by omega))
    show zs (fun d => ad (ad (ad (zsp N s i) (zgo i s) (2 * N i)) (zgo i ((s + 7) % 8)) (N i)) (zgo i ((s + 1) % 8)) (N i) d * g d) 120 = _
    rw [zs_ad 120 h3, zs_ad 120 h2, zs_ad 120 h1, ih (by omega), zs_s, Nat.mul_add, Nat.mul_add, ← Nat.mul_assoc (N i) 2, Nat.mul_comm (N i) 2]
    omega
theorem zp_mo {f g : Nat → Nat} : ∀ n, (∀ k, k < n → f k ≤ g k) → zp f n ≤ zp g n := by
  intro n
  induction n with
  | zero => exact fun _ => Nat.le_refl 1
  | succ n ih => exact fun h => Nat.mul_le_mul (ih (fun k hk => h k (by omega))) (h n (by omega))
theorem zp_pos {f : Nat → Nat} : ∀ n, (∀ k, k < n → 1 ≤ f k) → 1 ≤ zp f n := by
  intro n
  induction n with
  | zero => exact fun _ => Nat.le_refl 1
  | succ n ih => exact fun h => Nat.mul_le_mul (ih (fun k hk => h k (by omega))) (h n (by omega))
def zuf (z : zz) (o : Int32) (h e : Nat) : Nat := if zct z o e = true then (if z_sg z e 0 = 1 ∨ z_sg z e 0 = 2 then (if z_sg z e 1 ≤ h then 1 else 12) else 12) else 1
def zU (z : zz) (o : Int32) (h : Nat) : Nat := zp (zuf z o h) (z_sn z)
def zV (z : zz) (o : Int32) : Nat := zp (fun e => if zct z o e = true then 12 else 1) (z_sn z)
theorem zU_1 {z : zz} {o : Int32} {h : Nat} : 1 ≤ zU z o h := zp_pos _ (fun k _ => by
  unfold zuf
  (repeat' split) <;> omega)
theorem zU_0 {z : zz} {o : Int32} {c : Nat} : zhr z o 0 c * zU z o 0 ≤ zV z o := by
  unfold zhr zU zV
  rw [← zp_m]
  refine zp_mo _ (fun e _ => ?_)
  have := zwt_le (z_sg z e) c
  unfold zhf zuf
  (repeat' split) <;> omega
theorem zU_s {z : zz} {o : Int32} {h c : Nat} : zhr z o (h + 1) c * zU z o (h + 1) ≤ zU z o h := by
  unfold zhr zU
  rw [← zp_m]
  refine zp_mo _ (fun e _ => ?_)
  have := zwt_le (z_sg z e) c
  unfold zhf zuf
  (repeat' split) <;> omega
theorem zE_le {z : zz} {o : Int32} {h c : Nat} (hz : zw z) (hh : h ≤ z_ho z) : zE z o h c ≤ 9 * 4 ^ (z_ho z - h) * zU z o h := by
  have h9 := hz.2.2.1.2.2.2 h hh
  have h1 : zp (zbf z o h) (z_sn z) * zp (zaf z o c) (z_sn z) ≤ zU z o h := by
    unfold zU
    rw [← zp_m]
    refine zp_mo _ (fun e _ => ?_)
    have := zwt_le (z_sg z e) c
    have := zwt_le (z_sg z e) h
    unfold zbf zaf zuf
    (repeat' split) <;> omega
  unfold zE zB zA
  rw [Nat.mul_assoc]
  exact Nat.mul_le_mul (Nat.mul_le_mul_right _ h9) h1
def zC (z : zz) (o : Int32) (h c : Nat) : Nat := zN z o (-9) 0 h c
theorem zC_M {z : zz} {o : Int32} {h c : Nat} (hh : h < 2147483648) : zC z o h c = zM z o (-9) 0 h c * zhr z o h c := if_neg (fun p => ne_9 hh p.1)
theorem zM_s {z : zz} {o : Int32} {h : Nat} : zM z o (-9) 0 (h + 1) = zsp (zC z o h) (z_co z h) 120 := rfl
theorem zC_sum {z : zz} {o : Int32} (hz : zw z) : ∀ h, h ≤ z_ho z → zs (zC z o h) 120 * zU z o h ≤ 4 ^ h * zV z o := by
  have h6 := hz.2.2.1.2.1
  intro h
  induction h with
  | zero =>
    intro _
    have e : zs (zC z o 0) 120 ≤ zhr z o 0 (z_ce z) := by
      have : ∀ n, zs (zC z o 0) n ≤ if z_ce z < n then zhr z o 0 (z_ce z) else 0 := by
        intro n
        induction n with
        | zero => exact Nat.zero_le _
        | succ n ih =>
          rw [zs_s, zC_M (by omega)]
          show zs (zC z o 0) n + (if n = z_ce z then 1 else 0) * zhr z o 0 n ≤ _
          by_cases q : n = z_ce z
          · rw [if_pos q, if_pos (by omega), q]
            rw [if_neg (by omega), q] at ih
            omega
          · rw [if_neg q]
            by_cases q1 : z_ce z < n
            · rw [if_pos q1] at ih
              rw [if_pos (by omega)]
              omega
            · rw [if_neg q1] at ih
              rw [if_neg (by omega)]
              omega
      have h1 := this 120
      rw [if_pos hz.2.2.1.1] at h1
      exact h1
    have := Nat.mul_le_mul_right (zU z o 0) e
    rw [Nat.pow_zero, Nat.one_mul]
    exact Nat.le_trans this zU_0
  | succ h ih =>
    intro hh
    have ih := ih (by omega)
    have hco := hz.2.2.1.2.2.1 h (by omega)
    have e1 : zs (zC z o (h + 1)) 120 * zU z o (h + 1) ≤ zs (fun d => zsp (zC z o h) (z_co z h) 120 d * zU z o h) 120 := by
      rw [← zs_mul]
      refine zs_mo 120 (fun d _ => ?_)
      rw [zC_M (by omega), zM_s, Nat.mul_assoc]
      exact Nat.mul_le_mul_left _ zU_s
    rw [zsp_adj (g := fun _ => zU z o h) hco 120 (Nat.le_refl 120), zs_mul] at e1
    have e2 : 2 * zU z o h + zU z o h + zU z o h = 4 * zU z o h := by omega
    rw [e2] at e1
    have e3 : zs (zC z o h) 120 * (4 * zU z o h) = 4 * (zs (zC z o h) 120 * zU z o h) := by
      rw [Nat.mul_left_comm]
    rw [e3] at e1
    rw [Nat.pow_succ, Nat.mul_comm (4 ^ h) 4, Nat.mul_assoc]
    exact Nat.le_trans e1 (Nat.mul_le_mul_left 4 ih)
def zaf0 (z : zz) (o : Int32) : Nat := zs (fun k => zs (zL z o (-9) 0 k) 120) (z_ho z + 1)
theorem zL_C {z : zz} {o : Int32} {h c : Nat} (hh : h < 2147483648) : zL z o (-9) 0 h c = zC z o h c * zE z o h c := if_neg (by
  rw [tt_lt, tt_nI hh, tt_neg9]
  omega)
theorem zL_sum {z : zz} {o : Int32} {h : Nat} (hz : zw z) (hh : h ≤ z_ho z) : zs (zL z o (-9) 0 h) 120 ≤ 9 * 4 ^ z_ho z * zV z o := by
  have h6 := hz.2.2.1.2.1
  have e1 : zs (zL z o (-9) 0 h) 120 ≤ zs (fun c => zC z o h c * (9 * 4 ^ (z_ho z - h) * zU z o h)) 120 := zs_mo 120 (fun c _ => by
    rw [zL_C (by omega)]
    exact Nat.mul_le_mul_left _ (zE_le hz hh))
  rw [zs_mul] at e1
  have e2 : zs (zC z o h) 120 * (9 * 4 ^ (z_ho z - h) * zU z o h) = 9 * 4 ^ (z_ho z - h) * (zs (zC z o h) 120 * zU z o h) := by rw [Nat.mul_left_comm]
  have e3 : 9 * 4 ^ (z_ho z - h) * (4 ^ h * zV z o) = 9 * 4 ^ z_ho z * zV z o := by
    rw [← Nat.mul_assoc, Nat.mul_assoc 9, ← Nat.pow_add, show z_ho z - h + h = z_ho z by omega]
  rw [e2] at e1
  rw [← e3]
  exact Nat.le_trans e1 (Nat.mul_le_mul_left _ (zC_sum hz h hh))
theorem zaf0_le {z : zz} {o : Int32} (hz : zw z) : zaf0 z o ≤ 258048 * zV z o := by
  have h6 := hz.2.2.1.2.1
  have e1 : zaf0 z o ≤ 9 * 4 ^ z_ho z * zV z o * (z_ho z + 1) := zs_le _ (fun k hk => zL_sum hz (by omega))
  have e2 : 4 ^ z_ho z ≤ 4 ^ 6 := Nat.pow_le_pow_right (by omega) h6
  have e3 : 9 * 4 ^ z_ho z * zV z o * (z_ho z + 1) ≤ 9 * 4 ^ 6 * zV z o * 7 := Nat.mul_le_mul (Nat.mul_le_mul_right _ (Nat.mul_le_mul_left 9 e2)) (by omega)
  have e4 : 9 * 4 ^ 6 * zV z o * 7 = 258048 * zV z o := by omega
  omega
theorem zC_le {z : zz} {o : Int32} {h c : Nat} (hz : zw z) (hh : h ≤ z_ho z) (hc : c < 120) : zC z o h c ≤ 4096 * zV z o := by
  have h6 := hz.2.2.1.2.1
  have e1 := zC_sum (o := o) hz h hh
  have e2 := zs_le1 (f := zC z o h) 120 hc
  have e3 : zs (zC z o h) 120 * 1 ≤ zs (zC z o h) 120 * zU z o h := Nat.mul_le_mul_left _ zU_1
  have e4 : 4 ^ h * zV z o ≤ 4 ^ 6 * zV z o := Nat.mul_le_mul_right _ (Nat.pow_le_pow_right (by omega) (by omega))
  omega
theorem zV_pow {z : zz} {o : Int32} : zV z o = 12 ^ zs (fun e => zi (zct z o e)) (z_sn z) := by
  unfold zV
  have : ∀ n, zp (fun e => if zct z o e = true then 12 else 1) n = 12 ^ zs (fun e => zi (zct z o e)) n := by
    intro n
    induction n with
    | zero => rfl
    | succ n ih =>
      rw [zp_s, ih, zs_s]
      cases zct z o n with
      | false =>
        rw [if_neg (by decide), Nat.mul_one]
        rfl
      | true =>
        rw [if_pos rfl]
        rfl
  exact this _
theorem zV_le {z : zz} {o : Int32} {m : Nat} (h : zbusy z ≤ m) : zV z o ≤ 12 ^ m := by
  rw [zV_pow]
  refine Nat.pow_le_pow_right (by omega) (Nat.le_trans (zs_mo _ (fun e _ => ?_)) h)
  unfold zct
  rw [Bool.and_comm]
  exact zi_and
theorem zG_le {z : zz} {o : Int32} {c : Nat} : zG z o c ≤ zV z o := zp_mo _ (fun e _ => by
  have := zwt_le (z_sg z e) c
  unfold zgt
  (repeat' split) <;> omega)
/-- the odds' weight of a cell, and of all -/
def zw_ (z : zz) (k : Nat) (o : Int32) (c : Nat) : Nat := if k = 0 then zs (fun h => zL z o (-9) 0 h c) (z_ho z + 1) else (match z_st z k with
  | some w => w c
  | none => 0) * zG z o c
def za_ (z : zz) (k : Nat) (o : Int32) : Nat := zs (zw_ z k o) 120
theorem za_0 {z : zz} {o : Int32} : za_ z 0 o = zaf0 z o := by
  unfold za_ zaf0 zw_
  simp only [if_pos]
  exact (zs_swap _).symm
theorem za_le {z : zz} {k m : Nat} {o : Int32} (hz : zw z) (h : zbusy z ≤ m) : za_ z k o ≤ 258048 * 12 ^ m := by
  have hV := zV_le (o := o) h
  by_cases q : k = 0
  · rw [q, za_0]
    have := zaf0_le (o := o) hz
    have := Nat.mul_le_mul_left 258048 hV
    omega
  · have : za_ z k o ≤ 99 * zV z o * 120 := zs_le 120 (fun c hc => by
      unfold zw_
      rw [if_neg q]
      refine Nat.mul_le_mul ?_ zG_le
      cases e : z_st z k with
      | none => exact Nat.zero_le _
      | some w => exact hz.2.2.2.1 k w e c hc)
    have := Nat.mul_le_mul_left 258048 hV
    omega
theorem zw_le {z : zz} {k c : Nat} {o : Int32} (hc : c < 120) : zw_ z k o c ≤ za_ z k o := zs_le1 120 hc
/-! the way back -/
def zR (z : zz) (o : Int32) : Nat → Nat → Nat → Nat
  | 0, h, c => zE z o h c
  | k + 1, h, c => zE z o h c + (2 * (zhr z o (h + 1) (zgo c (z_co z h)) * zR z o k (h + 1) (zgo c (z_co z h))) + zhr z o (h + 1) (zgo c ((z_co z h + 7) % 8)) * zR z o k (h + 1) (zgo c ((z_co z h + 7) % 8)) + zhr z o (h + 1) (zgo c ((z_co z h + 1) % 8)) * zR z o k (h + 1) (zgo c ((z_co z h + 1) % 8)))
theorem zs_sh {f : Nat → Nat} : ∀ n, zs f (n + 1) = f 0 + zs (fun k => f (k + 1)) n := by
  intro n
  induction n with
  | zero => exact (Nat.zero_add _)
  | succ n ih =>
    rw [zs_s, ih, zs_s]
    omega
/-- from an hour on: what ends is what is there, on the way back -/
theorem zdual {z : zz} {o ah : Int32} {ac : Nat} (hz : zw z) : ∀ k h, h + k = z_ho z → (∀ j, h < j → j ≤ z_ho z → ¬ nI j = ah) → (∀ j, h ≤ j → j ≤ z_ho z → ¬ nI j < ah) → zs (fun i => zs (zL z o ah ac (h + i)) 120) (k + 1) = zs (fun c => zN z o ah ac h c * zR z o k h c) 120 := by
  intro k
  induction k with
  | zero =>
    intro h hk h1 h2
    show 0 + zs (zL z o ah ac h) 120 = _
    rw [Nat.zero_add]
    exact zs_c 120 (fun c _ => if_neg (h2 h (Nat.le_refl h) (by omega)))
  | succ k ih =>
    intro h hk h1 h2
    have hco := hz.2.2.1.2.2.1 h (by omega)
    rw [zs_sh]
    have e1 : zs (fun i => zs (zL z o ah ac (h + (i + 1))) 120) (k + 1) = zs (fun i => zs (zL z o ah ac (h + 1 + i)) 120) (k + 1) := zs_c _ (fun i _ => by rw [show h + (i + 1) = h + 1 + i by omega])
    rw [e1, ih (h + 1) (by omega) (fun j hj => h1 j (by omega)) (fun j hj => h2 j (by omega))]
    have e2 : zs (fun c => zN z o ah ac (h + 1) c * zR z o k (h + 1) c) 120 = zs (fun d => zsp (zN z o ah ac h) (z_co z h) 120 d * (zhr z o (h + 1) d * zR z o k (h + 1) d)) 120 := zs_c 120 (fun d _ => by
      unfold zN
      rw [if_neg (fun p => h1 (h + 1) (by omega) (by omega) p.1), Nat.mul_assoc]
      rfl)
    rw [e2, zsp_adj (g := fun d => zhr z o (h + 1) d * zR z o k (h + 1) d) hco 120 (Nat.le_refl 120)]
    have e3 : zs (zL z o ah ac (h + 0)) 120 = zs (fun c => zN z o ah ac h c * zE z o h c) 120 := zs_c 120 (fun c _ => if_neg (h2 h (Nat.le_refl h) (by omega)))
    rw [e3, ← zs_add]
    refine zs_c 120 (fun c _ => ?_)
    rw [← Nat.mul_add]
    rfl
/-! what is left out -/
theorem zp_one {f g : Nat → Nat} {e N : Nat} (h : ∀ k, k < N → k ≠ e → f k = g k) (he : f e ≤ 12 * g e) : ∀ n, n ≤ N → zp f n ≤ 12 * zp g n := by
  intro n
  induction n with
  | zero => exact fun _ => (show 1 ≤ 12 * 1 by omega)
  | succ n ih =>
    intro hn
    rw [zp_s, zp_s]
    by_cases q : n = e
    · have : ∀ m, m ≤ n → zp f m = zp g m := by
        intro m
        induction m with
        | zero => exact fun _ => rfl
        | succ m im =>
          intro hm
          rw [zp_s, zp_s, im (by omega), h m (by omega) (by omega)]
      rw [this n (by omega), q, Nat.mul_left_comm]
      exact Nat.mul_le_mul_left _ he
    · rw [h n (by omega) q, ← Nat.mul_assoc]
      exact Nat.mul_le_mul_right _ (ih (by omega))
theorem zct_e {z : zz} {e k : Nat} (he : e < 1000) (hk : k < 1000) (h : k ≠ e) : zct z (nI e) k = zct z (-9) k := by
  unfold zct
  rw [decide_eq_true (ne_9 (by omega)), decide_eq_true (show ¬ nI k = nI e from fun p => h ((nI_eq (by omega) (by omega)).mp p))]
theorem zct_s {z : zz} {e : Nat} : zct z (nI e) e = false := by
  unfold zct
  rw [decide_eq_false (fun p => p rfl), Bool.false_and]
theorem zp_z {f g : Nat → Nat} {e N : Nat} (h : ∀ k, k < N → k ≠ e → f k = g k) (he : f e ≤ 12) (hg : g e = 1) (h0 : zp g N = 0) : zp f N = 0 := by
  have := zp_one h (by rw [hg]; omega) N (Nat.le_refl N)
  rw [h0] at this
  omega
theorem zhr_z {z : zz} {e h c : Nat} (hz : zw z) (he : e < z_sn z) (h0 : zhr z (nI e) h c = 0) : zhr z (-9) h c = 0 := by
  have hn := hz.2.2.2.2.1
  refine zp_z (e := e) (fun k hk q => ?_) ?_ ?_ h0
  · unfold zhf
    rw [zct_e (by omega) (by omega) q]
  · have := zwt_le (z_sg z e) c
    unfold zhf
    (repeat' split) <;> omega
  · unfold zhf
    rw [zct_s, if_neg (by decide)]
theorem zE_z {z : zz} {e h c : Nat} (hz : zw z) (he : e < z_sn z) (h0 : zE z (nI e) h c = 0) : zE z (-9) h c = 0 := by
  have hn := hz.2.2.2.2.1
  unfold zE zB zA at h0 ⊢
  rcases Nat.mul_eq_zero.mp h0 with h1 | h1
  · rcases Nat.mul_eq_zero.mp h1 with h2 | h2
    · rw [h2, Nat.zero_mul, Nat.zero_mul]
    · have : zp (zbf z (-9) h) (z_sn z) = 0 := zp_z (e := e) (fun k hk q => by
        unfold zbf
        rw [zct_e (by omega) (by omega) q]) (by
        have := zwt_le (z_sg z e) h
        unfold zbf
        (repeat' split) <;> omega) (by
        unfold zbf
        rw [zct_s, if_neg (by decide)]) h2
      rw [this, Nat.mul_zero, Nat.zero_mul]
  · have : zp (zaf z (-9) c) (z_sn z) = 0 := zp_z (e := e) (fun k hk q => by
      unfold zaf
      rw [zct_e (by omega) (by omega) q]) (by
      have := zwt_le (z_sg z e) c
      unfold zaf
      (repeat' split) <;> omega) (by
      unfold zaf
      rw [zct_s, if_neg (by decide)]) h1
    rw [this, Nat.mul_zero]
theorem zG_z {z : zz} {e c : Nat} (hz : zw z) (he : e < z_sn z) (h0 : zG z (nI e) c = 0) : zG z (-9) c = 0 := by
  have hn := hz.2.2.2.2.1
  refine zp_z (e := e) (fun k hk q => ?_) ?_ ?_ h0
  · unfold zgt
    rw [zct_e (by omega) (by omega) q]
  · have := zwt_le (z_sg z e) c
    unfold zgt
    (repeat' split) <;> omega
  · unfold zgt
    rw [zct_s, if_neg (by decide)]
theorem ad_e {v : Nat → Nat} {p k d : Nat} : ad v p k d = 0 ↔ v d = 0 ∧ (d = p → k = 0) := by
  unfold ad
  by_cases q : d = p
  · rw [if_pos q]
    omega
  · rw [if_neg q]
    omega
theorem zsp_z {N1 N2 : Nat → Nat} {s : Nat} (h : ∀ c, N2 c = 0 → N1 c = 0) : ∀ i d, zsp N2 s i d = 0 → zsp N1 s i d = 0 := by
  intro i
  induction i with
  | zero => exact fun d _ => rfl
  | succ i ih =>
    intro d h0
    change ad (ad (ad (zsp N2 s i) (zgo i s) (2 * N2 i)) (zgo i ((s + 7) % 8)) (N2 i)) (zgo i ((s + 1) % 8)) (N2 i) d = 0 at h0
    show ad (ad (ad (zsp N1 s i) (zgo i s) (2 * N1 i)) (zgo i ((s + 7) % 8)) (N1 i)) (zgo i ((s + 1) % 8)) (N1 i) d = 0
    rw [ad_e, ad_e, ad_e] at h0 ⊢
    obtain ⟨⟨⟨a1, a2⟩, a3⟩, a4⟩ := h0
    refine ⟨⟨⟨ih d a1, fun q => ?_⟩, fun q => h i (a3 q)⟩, fun q => h i (a4 q)⟩
    have := h i (by have := a2 q; omega)
    omega
theorem zM_z {z : zz} {e : Nat} (hz : zw z) (he : e < z_sn z) : ∀ h, h < 100 → ∀ d, (zM z (nI e) (-9) 0 h d = 0 → zM z (-9) (-9) 0 h d = 0) ∧ (zC z (nI e) h d = 0 → zC z (-9) h d = 0) := by
  intro h
  induction h with
  | zero =>
    intro _ d
    have h1 : zM z (nI e) (-9) 0 0 d = 0 → zM z (-9) (-9) 0 0 d = 0 := fun q => q
    refine ⟨h1, fun q => ?_⟩
    rw [zC_M (by omega)] at q ⊢
    rcases Nat.mul_eq_zero.mp q with q | q
    · rw [h1 q, Nat.zero_mul]
    · rw [zhr_z hz he q, Nat.mul_zero]
  | succ h ih =>
    intro hh d
    have ih := ih (by omega)
    have h1 : zM z (nI e) (-9) 0 (h + 1) d = 0 → zM z (-9) (-9) 0 (h + 1) d = 0 := by
      rw [zM_s, zM_s]
      exact zsp_z (fun c => (ih c).2) 120 d
    refine ⟨h1, fun q => ?_⟩
    rw [zC_M (by omega)] at q ⊢
    rcases Nat.mul_eq_zero.mp q with q | q
    · rw [h1 q, Nat.zero_mul]
    · rw [zhr_z hz he q, Nat.mul_zero]
theorem za_z {z : zz} {e k : Nat} (hz : zw z) (he : e < z_sn z) (h0 : za_ z k (nI e) = 0) : za_ z k (-9) = 0 := by
  have h6 := hz.2.2.1.2.1
  refine zs_z 120 (fun c hc => ?_)
  have h1 := zs_0 h0 c hc
  unfold zw_ at h1 ⊢
  by_cases q : k = 0
  · rw [if_pos q] at h1 ⊢
    refine zs_z _ (fun h hh => ?_)
    have h2 := zs_0 h1 h hh
    rw [zL_C (by omega)] at h2
    rw [zL_C (by omega)]
    rcases Nat.mul_eq_zero.mp h2 with h3 | h3
    · rw [(zM_z hz he h (by omega) c).2 h3, Nat.zero_mul]
    · rw [zE_z hz he h3, Nat.mul_zero]
  · rw [if_neg q] at h1 ⊢
    rcases Nat.mul_eq_zero.mp h1 with h3 | h3
    · rw [h3, Nat.zero_mul]
    · rw [zG_z hz he h3, Nat.mul_zero]
