/-! ===== reading a text ===== -/
def isf (w : Nat → Int32) (n p m : Nat) : Bool := decide (p < n ∧ 48 ≤ (w p).toInt ∧ (w p).toInt ≤ 48 + (m : Int))
def fv (w : Nat → Int32) (p : Nat) : Nat := (w p).toNatClampNeg - 48
def nm (w : Nat → Int32) (n : Nat) : Nat → Nat → Nat → Nat × Nat
  | 0, p, v => (p, v)
  | k + 1, p, v => if isf w n p 9 = true then nm w n k (p + 1) (10 * v + fv w p) else (p, v)
theorem isf_t {w : Nat → Int32} {n p m : Nat} (h : isf w n p m = true) (hm : m ≤ 9) : p < n ∧ fv w p ≤ m ∧ w p = nI (48 + fv w p) := by
  have h1 := of_decide_eq_true h
  refine ⟨h1.1, ?_⟩
  obtain ⟨j, hj1, hj2, e⟩ | h2 := tt_from (w p) 48 57 (by omega)
  · have e1 : fv w p = j - 48 := by
      unfold fv
      rw [e, nI_clamp (by omega)]
    rw [e, tt_nI (by omega)] at h1
    refine ⟨by omega, ?_⟩
    rw [e1, e, show 48 + (j - 48) = j by omega]
  · omega
theorem nm_p {w : Nat → Int32} {n : Nat} : ∀ k p v, p ≤ n → p ≤ (nm w n k p v).1 ∧ (nm w n k p v).1 ≤ n := by
  intro k
  induction k with
  | zero => exact fun p v h => ⟨Nat.le_refl p, h⟩
  | succ k ih =>
    intro p v h
    show p ≤ (if isf w n p 9 = true then nm w n k (p + 1) (10 * v + fv w p) else (p, v)).1 ∧ (if isf w n p 9 = true then nm w n k (p + 1) (10 * v + fv w p) else (p, v)).1 ≤ n
    by_cases q : isf w n p 9 = true
    · rw [if_pos q]
      have h1 := (isf_t q (by omega)).1
      have h2 := ih (p + 1) (10 * v + fv w p) (by omega)
      omega
    · rw [if_neg q]
      exact ⟨Nat.le_refl p, h⟩
theorem nm_v {w : Nat → Int32} {n : Nat} : ∀ k p v, (nm w n k p v).2 + 1 ≤ (v + 1) * 10 ^ k := by
  intro k
  induction k with
  | zero =>
    intro p v
    show v + 1 ≤ (v + 1) * 1
    omega
  | succ k ih =>
    intro p v
    show (if isf w n p 9 = true then nm w n k (p + 1) (10 * v + fv w p) else (p, v)).2 + 1 ≤ (v + 1) * 10 ^ (k + 1)
    have hp : 1 ≤ 10 ^ k := Nat.pow_pos (by omega)
    by_cases q : isf w n p 9 = true
    · rw [if_pos q]
      have h1 := (isf_t q (by omega)).2.1
      have h2 := ih (p + 1) (10 * v + fv w p)
      have h3 : (10 * v + fv w p + 1) * 10 ^ k ≤ (10 * (v + 1)) * 10 ^ k := Nat.mul_le_mul_right _ (by omega)
      rw [Nat.pow_succ, Nat.mul_comm (10 ^ k) 10, ← Nat.mul_assoc, Nat.mul_comm (v + 1) 10]
      exact Nat.le_trans h2 h3
    · rw [if_neg q]
      have : (v + 1) * 1 ≤ (v + 1) * 10 ^ (k + 1) := Nat.mul_le_mul_left _ (Nat.pow_pos (by omega))
      omega
theorem nm_1 {w : Nat → Int32} {n k p v : Nat} (q : isf w n p 9 = true) : nm w n (k + 1) p v = nm w n k (p + 1) (10 * v + fv w p) := if_pos q
/-- an item: where it ends and what it says; or where it can't go on -/
def ipw (w : Nat → Int32) (n kd c m q : Nat) : Nat × Option (Nat × Nat × Nat × Nat) := if q < n ∧ w q = 61 then (if isf w n (q + 1) 9 = true then ((nm w n 2 (q + 1) 0).1, some (kd, c, m, (nm w n 2 (q + 1) 0).2)) else (q + 1, none)) else (q, none)
def ipm (w : Nat → Int32) (n kd mx c q : Nat) : Nat × Option (Nat × Nat × Nat × Nat) := if q < n ∧ w q = 58 then (if isf w n (q + 1) mx = true then ipw w n kd c (fv w (q + 1)) (q + 2) else (q + 1, none)) else (q, none)
def ipc (w : Nat → Int32) (n kd mx p : Nat) : Nat × Option (Nat × Nat × Nat × Nat) := if isf w n p 9 = true then (if (nm w n 3 p 0).2 < 120 then ipm w n kd mx (nm w n 3 p 0).2 (nm w n 3 p 0).1 else ((nm w n 3 p 0).1, none)) else (p, none)
def ip (w : Nat → Int32) (n p : Nat) : Nat × Option (Nat × Nat × Nat × Nat) := if w p = 97 then ipw w n 0 0 0 (p + 1) else if w p = 114 then ipc w n 1 9 (p + 1) else if w p = 108 then ipc w n 2 7 (p + 1) else (p, none)
/-- the class's reader -/
def q5 (b : Nat → Int32) (n p fl it : Int32) : Nat → Int32 := fun k => if k = 1 then n else if k = 2 then p else if k = 3 then fl else if k = 5 then it else b k
def xR (S : sm_t) (n p : Nat) (fl : Int32) (it : Nat) (g : Nat → Int32) : sm_t := wf (wf S 46 (q5 (S.1 46) (nI n) (nI p) fl (nI it))) 47 g
def rx (S : sm_t) (t n : Nat) (w : Nat → Int32) : Prop := t < 4 ∧ n ≤ 80 ∧ S.2.2.2.2 = some (13 + t) ∧ ∀ k, k < n → S.1 (13 + t) k = w k
theorem xR_45 {S : sm_t} {n p it : Nat} {fl : Int32} {g : Nat → Int32} : (xR S n p fl it g).1 46 = q5 (S.1 46) (nI n) (nI p) fl (nI it) := by
  unfold xR
  rw [wf_o (by omega), wf_s]
theorem xR_46 {S : sm_t} {n p it : Nat} {fl : Int32} {g : Nat → Int32} : (xR S n p fl it g).1 47 = g := wf_s
theorem xR_o {S : sm_t} {n p it b : Nat} {fl : Int32} {g : Nat → Int32} (h : b ≠ 46) (h2 : b ≠ 47) : (xR S n p fl it g).1 b = S.1 b := by
  unfold xR
  rw [wf_o h2, wf_o h]
theorem r_1 {S : sm_t} {n p it : Nat} {fl : Int32} {g : Nat → Int32} : (xR S n p fl it g).1 46 1 = nI n := by rw [xR_45]; rfl
theorem r_2 {S : sm_t} {n p it : Nat} {fl : Int32} {g : Nat → Int32} : (xR S n p fl it g).1 46 2 = nI p := by rw [xR_45]; rfl
theorem r_3 {S : sm_t} {n p it : Nat} {fl : Int32} {g : Nat → Int32} : (xR S n p fl it g).1 46 3 = fl := by rw [xR_45]; rfl
theorem r_5 {S : sm_t} {n p it : Nat} {fl : Int32} {g : Nat → Int32} : (xR S n p fl it g).1 46 5 = nI it := by rw [xR_45]; rfl
theorem va_sw {α : Type} {f : Nat → α} {a b : Nat} {x y : α} (h : a ≠ b) : va_up (va_up f a x) b y = va_up (va_up f b y) a x := by
  funext k
  by_cases q : k = a
  · subst q
    rw [sm_up_o _ _ h, sm_up_s, sm_up_s]
  · by_cases q1 : k = b
    · subst q1
      rw [sm_up_s, sm_up_o _ _ q, sm_up_s]
    · rw [sm_up_o _ _ q1, sm_up_o _ _ q, sm_up_o _ _ q, sm_up_o _ _ q1]
theorem wf_sw {S : sm_t} {a b : Nat} {x y : Nat → Int32} (h : a ≠ b) : wf (wf S a x) b y = wf (wf S b y) a x := by
  unfold wf
  rw [va_sw h]
theorem xR_w {S : sm_t} {n p it i p' it' : Nat} {fl fl' v : Int32} {g : Nat → Int32} (h : upd (q5 (S.1 46) (nI n) (nI p) fl (nI it)) i v = q5 (S.1 46) (nI n) (nI p') fl' (nI it')) : sm_wI (xR S n p fl it g) 46 i v = xR S n p' fl' it' g := by
  rw [wI_f, xR_45, h]
  unfold xR
  rw [wf_sw (by omega), wf_wf, wf_sw (by omega)]
theorem w_2 {S : sm_t} {n p it p' : Nat} {fl : Int32} {g : Nat → Int32} : sm_wI (xR S n p fl it g) 46 2 (nI p') = xR S n p' fl it g := xR_w (funext fun k => by
  by_cases q : k = 2
  · rw [q, pk_us]
    rfl
  · rw [pk_un q]
    unfold q5
    rw [if_neg q, if_neg q])
theorem w_3 {S : sm_t} {n p it : Nat} {fl fl' : Int32} {g : Nat → Int32} : sm_wI (xR S n p fl it g) 46 3 fl' = xR S n p fl' it g := xR_w (funext fun k => by
  by_cases q : k = 3
  · rw [q, pk_us]
    rfl
  · rw [pk_un q]
    unfold q5
    rw [if_neg q, if_neg q])
theorem w_5 {S : sm_t} {n p it it' : Nat} {fl : Int32} {g : Nat → Int32} : sm_wI (xR S n p fl it g) 46 5 (nI it') = xR S n p fl it' g := xR_w (funext fun k => by
  by_cases q : k = 5
  · rw [q, pk_us]
    rfl
  · rw [pk_un q]
    unfold q5
    rw [if_neg q, if_neg q])
theorem w_46 {S : sm_t} {n p it : Nat} {fl : Int32} {g g' : Nat → Int32} : wf (xR S n p fl it g) 47 g' = xR S n p fl it g' := by
  unfold xR
  rw [wf_wf]
theorem r_t {S : sm_t} {n p it t : Nat} {fl : Int32} {g w : Nat → Int32} (h : rx S t n w) {k : Nat} (hk : k < n) : (xR S n p fl it g).1 (13 + t) k = w k := by
  have := h.1
  rw [xR_o (by omega) (by omega)]
  exact h.2.2.2 k hk
/-- reading the text where the class does -/
theorem r_bd {ρ : Type} {S : sm_t} {n p it t : Nat} {fl : Int32} {g w : Nat → Int32} (h : rx S t n w) (hp : p < n) (K : Int32 → Option ρ) : ((xR S n p fl it g).2.2.2.2.bind fun a3 => sm_an (.byte) a3 fun n6 => sm_rd ((xR S n p fl it g).1 a3) n6 (nI p) K) = K (w p) := by
  have ht := h.1
  have hn := h.2.1
  rw [show (xR S n p fl it g).2.2.2.2 = some (13 + t) from h.2.2.1, Option.bind_some, tt_an (tt_sq_text t ht), tt_r _ (r_t h hp) (by omega) (by omega)]
theorem x_take {F t n p it : Nat} {S : sm_t} {g w : Nat → Int32} {c : Int32} (h : rx S t n w) (hp : p ≤ n) : x4_take F c (xR S n p (-9) it g) = some (if p < n ∧ w p = c then xR S n (p + 1) (-9) it g else xR S n p (nI p) it g) := by
  have hn := h.2.1
  unfold x4_take
  simp only [tt_n, r_1, r_2, r_3, eq_self, ↓reduceIte, nI_1, w_2, w_3]
  by_cases q : p < n
  · rw [if_neg (nI_ge q (by omega)), r_bd h q]
    by_cases q1 : w p = c
    · rw [if_pos q1, if_pos ⟨q, q1⟩]
    · rw [if_neg q1, if_neg (fun x => q1 x.2)]
  · rw [if_pos (nI_le (by omega) (by omega)), if_neg (fun x => q x.1)]
theorem f_take {F n p q it : Nat} {S : sm_t} {g : Nat → Int32} {c : Int32} (hq : q ≤ 80) : x4_take F c (xR S n p (nI q) it g) = some (xR S n p (nI q) it g) := by
  unfold x4_take
  simp only [tt_n, r_3, if_neg (show ¬ nI q = -9 from ne_9 (by omega))]
theorem x_isf {F t n p it m : Nat} {S : sm_t} {g w : Nat → Int32} {fl : Int32} (h : rx S t n w) (hp : p ≤ n) (hm : m ≤ 9) : x4_isFigure F (nI m) (xR S n p fl it g) = some (nI (zi (isf w n p m)), xR S n p fl it g) := by
  have hn := h.2.1
  unfold x4_isFigure
  simp only [tt_n, r_1, r_2]
  by_cases q : p < n
  · rw [if_neg (nI_ge q (by omega)), r_bd h q, r_bd h q, show (48 : Int32) + nI m = nI (48 + m) from nI_add 48 m]
    unfold isf
    by_cases q1 : (w p).toInt < 48
    · rw [if_pos (show w p < 48 by rw [tt_lt]; exact q1), decide_eq_false (by omega)]
      rfl
    · rw [if_neg (show ¬ w p < 48 by rw [tt_lt]; exact q1)]
      by_cases q2 : 48 + (m : Int) < (w p).toInt
      · rw [if_pos (by rw [tt_lt, tt_nI (by omega)]; omega), decide_eq_false (by omega)]
        rfl
      · rw [if_neg (by rw [tt_lt, tt_nI (by omega)]; omega), decide_eq_true (by omega)]
        rfl
  · rw [if_pos (nI_le (by omega) (by omega)), show isf w n p m = false from decide_eq_false (by omega)]
    rfl
theorem x_tf {F t n p it m : Nat} {S : sm_t} {g w : Nat → Int32} (h : rx S t n w) (hp : p ≤ n) (hm : m ≤ 9) : x4_takeFigure F (nI m) (xR S n p (-9) it g) = some (if isf w n p m = true then (nI (fv w p), xR S n (p + 1) (-9) it g) else (-9, xR S n p (nI p) it g)) := by
  have hn := h.2.1
  unfold x4_takeFigure
  rw [tt_n, r_3, if_pos rfl, x_isf h hp hm, tt_cI]
  cases q : isf w n p m with
  | false =>
    rw [if_pos (zi_0 rfl), tt_n, r_3, if_pos rfl, tt_n, tt_n, r_2, w_3, if_neg (by decide)]
  | true =>
    have h1 := isf_t q hm
    have ht := h.1
    rw [if_neg (zi_1 rfl), tt_n, tt_n, r_2, nI_1, w_2, if_pos rfl, show (xR S n (p + 1) (-9) it g).2.2.2.2 = some (13 + t) from h.2.2.1, Option.bind_some, tt_n, r_2, nI_pred, tt_an (tt_sq_text t ht), tt_r _ (r_t h h1.1) (by omega) (by omega), h1.2.2, show nI (48 + fv w p) - 48 = nI (48 + fv w p - 48) from pk_sub (b := 48) (by omega), show 48 + fv w p - 48 = fv w p by omega]
theorem f_tf {F n p q it : Nat} {S : sm_t} {g : Nat → Int32} {c : Int32} (hq : q ≤ 80) : x4_takeFigure F c (xR S n p (nI q) it g) = some (-9, xR S n p (nI q) it g) := by
  unfold x4_takeFigure
  simp only [tt_n, r_3, if_neg (show ¬ nI q = -9 from ne_9 (by omega))]
theorem x_tn9 {F t n it m : Nat} {S : sm_t} {g w : Nat → Int32} (h : rx S t n w) (hm : m ≤ 9) : ∀ (k f p v i : Nat), p ≤ n → i + k = m → k < f → x4_takeNumber_9 F f (nI m) (nI v) (nI i) (xR S n p (-9) it g) = some (nI (nm w n k p v).2, xR S n (nm w n k p v).1 (-9) it g) := by
  intro k
  induction k with
  | zero =>
    intro f p v i hp h1 h2
    obtain ⟨f, rfl⟩ : ∃ f0, f = f0 + 1 := ⟨f - 1, by omega⟩
    rw [x4_takeNumber_9, if_pos (nI_le (by omega) (by omega))]
    rfl
  | succ k ih =>
    intro f p v i hp h1 h2
    obtain ⟨f, rfl⟩ : ∃ f0, f = f0 + 1 := ⟨f - 1, by omega⟩
    rw [x4_takeNumber_9, if_neg (nI_ge (by omega) (by omega)), tt_n, r_3, if_pos rfl, show x4_isFigure F 9 (xR S n p (-9) it g) = _ from x_isf (m := 9) h hp (by omega), tt_cI]
    by_cases q : isf w n p 9 = true
    · have h3 := isf_t q (by omega)
      rw [q, if_neg (zi_1 rfl), show x4_takeFigure F 9 (xR S n p (-9) it g) = _ from x_tf (m := 9) h hp (by omega), if_pos q, tt_cI, tt_n, tk_n10, nI_add, nI_1, nm_1 q, Nat.mul_comm v 10]
      exact ih f (p + 1) _ (i + 1) (by omega) (by omega) (by omega)
    · rw [Bool.eq_false_iff.mpr q, if_pos (zi_0 rfl), show nm w n (k + 1) p v = (p, v) from if_neg q]
theorem x_tn {F t n p it m : Nat} {S : sm_t} {g w : Nat → Int32} (hF : 1000 < F) (h : rx S t n w) (hp : p ≤ n) (hm : m < 9) : x4_takeNumber F (nI (m + 1)) (xR S n p (-9) it g) = some (if isf w n p 9 = true then (nI (nm w n (m + 1) p 0).2, xR S n (nm w n (m + 1) p 0).1 (-9) it g) else (-9, xR S n p (nI p) it g)) := by
  unfold x4_takeNumber
  rw [show x4_takeFigure F 9 (xR S n p (-9) it g) = _ from x_tf (m := 9) h hp (by omega)]
  by_cases q : isf w n p 9 = true
  · have h3 := isf_t q (by omega)
    rw [if_pos q, if_pos q, tt_cI, nm_1 q, show 10 * 0 + fv w p = fv w p by omega]
    exact x_tn9 (m := m + 1) h (by omega) m F (p + 1) _ 1 (by omega) (by omega) (by omega)
  · have hn := h.2.1
    rw [if_neg q, if_neg q, tt_cI]
    have : ∀ f, 0 < f → x4_takeNumber_9 F f (nI (m + 1)) (-9) 1 (xR S n p (nI p) it g) = some (-9, xR S n p (nI p) it g) := by
      intro f hf
      obtain ⟨f, rfl⟩ : ∃ f0, f = f0 + 1 := ⟨f - 1, by omega⟩
      rw [x4_takeNumber_9]
      by_cases q1 : m = 0
      · rw [if_pos (show nI (m + 1) ≤ 1 from nI_le (b := 1) (by omega) (by omega))]
      · rw [if_neg (show ¬ nI (m + 1) ≤ 1 from nI_ge (a := 1) (by omega) (by omega)), tt_n, r_3, if_neg (ne_9 (by omega))]
    exact this F (by omega)
theorem f_tn {F n p q it m : Nat} {S : sm_t} {g : Nat → Int32} (hF : 1000 < F) (hq : q ≤ 80) (hm : m < 9) : x4_takeNumber F (nI (m + 1)) (xR S n p (nI q) it g) = some (-9, xR S n p (nI q) it g) := by
  unfold x4_takeNumber
  rw [f_tf hq, tt_cI]
  have : ∀ f, 0 < f → x4_takeNumber_9 F f (nI (m + 1)) (-9) 1 (xR S n p (nI q) it g) = some (-9, xR S n p (nI q) it g) := by
    intro f hf
    obtain ⟨f, rfl⟩ : ∃ f0, f = f0 + 1 := ⟨f - 1, by omega⟩
    rw [x4_takeNumber_9]
    by_cases q1 : m = 0
    · rw [if_pos (show nI (m + 1) ≤ 1 from nI_le (b := 1) (by omega) (by omega))]
    · rw [if_neg (show ¬ nI (m + 1) ≤ 1 from nI_ge (a := 1) (by omega) (by omega)), tt_n, r_3, if_neg (ne_9 (by omega))]
  exact this F (by omega)
theorem x_tc {F t n p it : Nat} {S : sm_t} {g w : Nat → Int32} (hF : 1000 < F) (h : rx S t n w) (hp : p ≤ n) : ∃ v, x4_takeCell F (xR S n p (-9) it g) = some (v, (if isf w n p 9 = true then (if (nm w n 3 p 0).2 < 120 then xR S n (nm w n 3 p 0).1 (-9) it g else xR S n (nm w n 3 p 0).1 (nI (nm w n 3 p 0).1) it g) else xR S n p (nI p) it g)) ∧ (isf w n p 9 = true → v = nI (nm w n 3 p 0).2) := by
  have hn := h.2.1
  unfold x4_takeCell
  rw [show x4_takeNumber F 3 (xR S n p (-9) it g) = _ from x_tn (m := 2) hF h hp (by omega)]
  by_cases q : isf w n p 9 = true
  · have h3 := isf_t q (by omega)
    have hv := nm_v (w := w) (n := n) 3 p 0
    refine ⟨nI (nm w n 3 p 0).2, ?_, fun _ => rfl⟩
    rw [if_pos q, if_pos q, tt_cI, tt_n, r_3, if_pos rfl]
    rcases tt_below (nI (nm w n 3 p 0).2) 120 (by omega) with ⟨j, hj, e⟩ | e
    · have : (nm w n 3 p 0).2 = j := (nI_eq (by omega) (by omega)).mp e
      rw [this, x_cell1 hj, tt_cI, if_neg n10, if_pos hj]
    · have e1 := e
      rw [tt_nI (by omega)] at e1
      rw [show x1_isCell F (nI (nm w n (2 + 1) p 0).2) _ = _ from x_cell0 e, tt_cI, if_pos p00, tt_n, tt_n, r_2, w_3, if_neg (by omega)]
  · refine ⟨-9, ?_, fun x => absurd x q⟩
    rw [if_neg q, if_neg q, tt_cI, tt_n, r_3, if_neg (ne_9 (by omega))]
