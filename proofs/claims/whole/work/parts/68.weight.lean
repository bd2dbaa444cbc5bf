/-! ===== loops; what a sign weighs ===== -/
theorem lp {α β : Type} {L : Nat → α → Int32 → β} {n : Nat} (P : Nat → α → Prop) (Q : β → Prop) (h0 : ∀ f a, P n a → Q (L (f + 1) a (nI n))) (h1 : ∀ f i a, i < n → P i a → Q (L (f + 1) a (nI i)) ∨ ∃ a', L (f + 1) a (nI i) = L f a' (nI (i + 1)) ∧ P (i + 1) a') : ∀ (d f i : Nat) (a : α), i + d = n → d < f → P i a → Q (L f a (nI i)) := by
  intro d
  induction d with
  | zero =>
    intro f i a h2 h3 h4
    obtain ⟨f, rfl⟩ : ∃ f0, f = f0 + 1 := ⟨f - 1, by omega⟩
    obtain rfl : i = n := by omega
    exact h0 f a h4
  | succ d ih =>
    intro f i a h2 h3 h4
    obtain ⟨f, rfl⟩ : ∃ f0, f = f0 + 1 := ⟨f - 1, by omega⟩
    rcases h1 f i a (by omega) h4 with h | ⟨a', h, h'⟩
    · exact h
    · rw [h]
      exact ih f (i + 1) a' (by omega) (by omega) h'
theorem lp0 {α β : Type} (L : Nat → α → Int32 → β) (n : Nat) (P : Nat → α → Prop) (Q : β → Prop) {f : Nat} {a : α} (hf : n < f) (hP : P 0 a) (h0 : ∀ f a, P n a → Q (L (f + 1) a (nI n))) (h1 : ∀ f i a, i < n → P i a → Q (L (f + 1) a (nI i)) ∨ ∃ a', L (f + 1) a (nI i) = L f a' (nI (i + 1)) ∧ P (i + 1) a') : Q (L f a 0) := lp P Q h0 h1 n f 0 a (by omega) hf hP
theorem lpi {α β : Type} (L : Nat → α → Int32 → β) (n i : Nat) (P : Nat → α → Prop) (Q : β → Prop) {f : Nat} {a : α} (hi : i ≤ n) (hf : n - i < f) (hP : P i a) (h0 : ∀ f a, P n a → Q (L (f + 1) a (nI n))) (h1 : ∀ f i a, i < n → P i a → Q (L (f + 1) a (nI i)) ∨ ∃ a', L (f + 1) a (nI i) = L f a' (nI (i + 1)) ∧ P (i + 1) a') : Q (L f a (nI i)) := lp P Q h0 h1 (n - i) f i a (by omega) hf hP
theorem n10 : ¬ (1 : Int32) = 0 := by decide
theorem p00 : (0 : Int32) = 0 := rfl
/-! heard -/
def zhw (l d : Nat) : Nat := [12, 8, 4, 1].getD (zd l (5 - d)) 0
def zbw (a p : Nat) : Nat := [12, 6, 2].getD (zd a p) 0
theorem zhw_le (l d : Nat) : zhw l d ≤ 12 := by
  unfold zhw
  generalize zd l (5 - d) = n
  match n with
  | 0 => decide
  | 1 => decide
  | 2 => decide
  | 3 => decide
  | n + 4 => exact Nat.zero_le _
theorem zbw_le (l d : Nat) : zbw l d ≤ 12 := by
  unfold zbw
  generalize zd l d = n
  match n with
  | 0 => decide
  | 1 => decide
  | 2 => decide
  | n + 3 => exact Nat.zero_le _
def phv (v1 : Int32) : Option Int32 := if v1 < 0 ∨ 3 < v1 then some 0 else if v1 = 0 then some 12 else if v1 = 1 then some 8 else if v1 = 2 then some 4 else if v1 = 3 then some 1 else none
def phw (l0 l1 : Int32) : Option Int32 := phv (sm_ab (l0 - sm_mx (5 - l1) 0))
theorem x_hw {F : Nat} {l0 l1 : Int32} {S : sm_t} : x6_heardWeight F l0 l1 S = (phw l0 l1).map (fun v => (v, S)) := by
  unfold x6_heardWeight phw phv
  rw [tt_n]
  (repeat' split) <;> rfl
theorem phw_1 : ∀ l, l < 6 → ∀ d, d < 12 → phw (nI l) (nI d) = some (nI (zhw l d)) := by decide +kernel
theorem x_heard {F l d : Nat} {S : sm_t} (hl : l < 6) (hd : d < 12) : x6_heardWeight F (nI l) (nI d) S = some (nI (zhw l d), S) := by
  rw [x_hw, phw_1 l hl d hd]
  rfl
def pmv (v : Int32) : Int32 := if v = 0 then 12 else if v = 1 then 8 else if v = 2 then 4 else if v = 3 then 1 else 0
theorem m_hw13 {F : Nat} {t0 t1 : Int32} {S : sm_t} : x8_heardBy_13 F t0 t1 S = some (pmv (sm_ab (t0 - t1)), S) := by
  unfold x8_heardBy_13 pmv
  rw [ab_2, tt_cI]
  (repeat' split) <;> rfl
def pm2 (l0 l1 : Int32) : Int32 := if l1 ≤ 5 then pmv (sm_ab (l0 - (5 - l1))) else pmv (sm_ab (l0 - 0))
theorem pm2_1 : ∀ l, l < 6 → ∀ d, d < 12 → pm2 (nI l) (nI d) = nI (zhw l d) := by decide +kernel
theorem m_heard {F l d : Nat} {S : sm_t} (hl : l < 6) (hd : d < 12) : x8_heardBy F (nI l) (nI d) S = some (nI (zhw l d), S) := by
  rw [← pm2_1 l hl d hd]
  unfold x8_heardBy pm2
  rw [m_hw13, m_hw13]
  split <;> rfl
def zgf (l : Nat) : Nat := if l ≤ 1 then 11 else 6 - l
theorem zhw_n : ∀ l, l < 6 → ∀ d, d < 12 → (d < 4 - l → zhw l d < 8) ∧ 8 ≤ zhw l (4 - l) ∧ (zgf l < d → zhw l d < 8) ∧ 8 ≤ zhw l (zgf l) ∧ zgf l < 12 := by decide +kernel
theorem x_nearest {F l : Nat} {S : sm_t} (hF : 1000 < F) (hl : l < 6) : x6_nearestHeard F (nI l) S = some (nI (4 - l), S) := by
  unfold x6_nearestHeard
  refine lp0 (fun f (_ : Unit) i => x6_nearestHeard_2 F f (nI l) i S) (4 - l) (fun _ _ => True) (fun o => o = some (nI (4 - l), S)) (a := ()) (by omega) trivial (fun f _ _ => ?_) (fun f i _ hi _ => Or.inr ⟨(), ?_, trivial⟩)
  · change x6_nearestHeard_2 F (f + 1) (nI l) (nI (4 - l)) S = _
    have h := zhw_n l hl (4 - l) (by omega)
    have h2 := zhw_le l (4 - l)
    rw [x6_nearestHeard_2, if_neg (show ¬ (11 : Int32) < nI (4 - l) from nI_nlt (a := 11) (by omega) (by omega)), x_heard hl (by omega), tt_cI, if_neg (show ¬ nI (zhw l (4 - l)) < 8 from nI_nlt (b := 8) (by omega) (by omega))]
  · change x6_nearestHeard_2 F (f + 1) (nI l) (nI i) S = _
    have h := zhw_n l hl i (by omega)
    rw [x6_nearestHeard_2, if_neg (show ¬ (11 : Int32) < nI i from nI_nlt (a := 11) (by omega) (by omega)), x_heard hl (by omega), tt_cI, if_pos (show nI (zhw l i) < 8 from nI_lt (b := 8) (by omega) (by omega)), nI_1]
theorem m_nearest {F l : Nat} {S : sm_t} (hF : 1000 < F) (hl : l < 6) : x8_leastFar F (nI l) S = some (nI (4 - l), S) := by
  unfold x8_leastFar
  refine lp0 (fun f (_ : Unit) i => x8_leastFar_2 F f (nI l) i S) (4 - l) (fun _ _ => True) (fun o => o = some (nI (4 - l), S)) (a := ()) (by omega) trivial (fun f _ _ => ?_) (fun f i _ hi _ => Or.inr ⟨(), ?_, trivial⟩)
  · change x8_leastFar_2 F (f + 1) (nI l) (nI (4 - l)) S = _
    have h := zhw_n l hl (4 - l) (by omega)
    have h2 := zhw_le l (4 - l)
    rw [x8_leastFar_2, m_heard hl (by omega), tt_cI, if_pos (show (8 : Int32) ≤ nI (zhw l (4 - l)) from nI_le (a := 8) (by omega) (by omega))]
  · change x8_leastFar_2 F (f + 1) (nI l) (nI i) S = _
    have h := zhw_n l hl i (by omega)
    rw [x8_leastFar_2, m_heard hl (by omega), tt_cI, if_neg (show ¬ (8 : Int32) ≤ nI (zhw l i) from nI_ge (b := 8) (by omega) (by omega)), nI_1]
theorem dn_1 {i : Nat} (hi : i < 11) : nI (11 - i) + (-1) = nI (11 - (i + 1)) := by
  rw [show 11 - i = (11 - (i + 1)) + 1 by omega, pk_m1]
theorem dn_0 {i : Nat} (hi : i ≤ 11) : (11 : Int32) - nI i = nI (11 - i) := pk_sub (a := 11) hi
theorem x_farthest {F l : Nat} {S : sm_t} (hF : 1000 < F) (hl : l < 6) : x6_farthestHeard F (nI l) S = some (nI (zgf l), S) := by
  unfold x6_farthestHeard
  have hg := (zhw_n l hl 0 (by omega)).2.2.2
  refine lp0 (fun f (_ : Unit) i => x6_farthestHeard_3 F f (nI l) (11 - i) S) (11 - zgf l) (fun _ _ => True) (fun o => o = some (nI (zgf l), S)) (a := ()) (by omega) trivial (fun f _ _ => ?_) (fun f i _ hi _ => Or.inr ⟨(), ?_, trivial⟩)
  · change x6_farthestHeard_3 F (f + 1) (nI l) (11 - nI (11 - zgf l)) S = _
    have h2 := zhw_le l (zgf l)
    rw [dn_0 (by omega), show 11 - (11 - zgf l) = zgf l by omega, x6_farthestHeard_3, if_neg (nI_pos (by omega)), x_heard hl (by omega), tt_cI, if_neg (show ¬ nI (zhw l (zgf l)) < 8 from nI_nlt (b := 8) (by omega) (by omega))]
  · change x6_farthestHeard_3 F (f + 1) (nI l) (11 - nI i) S = x6_farthestHeard_3 F f (nI l) (11 - nI (i + 1)) S
    have h := zhw_n l hl (11 - i) (by omega)
    rw [dn_0 (by omega), dn_0 (by omega), x6_farthestHeard_3, if_neg (nI_pos (by omega)), x_heard hl (by omega), tt_cI, if_pos (show nI (zhw l (11 - i)) < 8 from nI_lt (b := 8) (by omega) (by omega)), dn_1 (by omega)]
theorem m_near14 {F l : Nat} {S : sm_t} (hF : 1000 < F) (hl : l < 6) : x8_near_14 F F (nI l) 11 S = some (nI (4 - l), sm_wI S 52 2 (nI (zgf l))) := by
  have hg := (zhw_n l hl 0 (by omega)).2.2.2
  refine lp0 (fun f (_ : Unit) i => x8_near_14 F f (nI l) (11 - i) S) (11 - zgf l) (fun _ _ => True) (fun o => o = some (nI (4 - l), sm_wI S 52 2 (nI (zgf l)))) (a := ()) (by omega) trivial (fun f _ _ => ?_) (fun f i _ hi _ => Or.inr ⟨(), ?_, trivial⟩)
  · change x8_near_14 F (f + 1) (nI l) (11 - nI (11 - zgf l)) S = _
    have h2 := zhw_le l (zgf l)
    rw [dn_0 (by omega), show 11 - (11 - zgf l) = zgf l by omega, x8_near_14, m_heard hl (by omega), tt_cI, if_pos (show (8 : Int32) ≤ nI (zhw l (zgf l)) from nI_le (a := 8) (by omega) (by omega)), m_nearest hF hl, tt_cI, x_ak2, tt_cI]
  · change x8_near_14 F (f + 1) (nI l) (11 - nI i) S = x8_near_14 F f (nI l) (11 - nI (i + 1)) S
    have h := zhw_n l hl (11 - i) (by omega)
    rw [dn_0 (by omega), dn_0 (by omega), x8_near_14, m_heard hl (by omega), tt_cI, if_neg (show ¬ (8 : Int32) ≤ nI (zhw l (11 - i)) from nI_ge (b := 8) (by omega) (by omega)), dn_1 (by omega)]
theorem q_near {z : zz} {J K S T : sm_t} (hz : zw z) (hx : xi z J S) (hm : mi z K T) {F : Nat} (hF : 1000 < F) (l : Int32) : bt J K (x7_near F l S) (x8_near F l T) := by
  unfold x7_near x8_near
  rw [show (5 : Int32) = nI 5 from rfl]
  rcases tt_below l 6 (by omega) with ⟨l, hl, rfl⟩ | h
  · rw [x_wi1 (by omega) (by omega), m_in1 (by omega) (by omega), tt_cI, tt_cI, if_neg (by decide), if_neg (by decide), x_farthest hF hl, tt_cI, tt_n, x_nearest hF hl, tt_cI, m_near14 hF hl]
    exact bt_ak hz hx hm _ _
  · rw [x_wiN (by omega) (by omega), m_inN (by omega) (by omega)]
    exact bt_same hz hx hm (-1)
/-! seen -/
def zbt (v a b : Nat) : Bool := decide (min a b ≤ v ∧ v ≤ max a b)
def zi (b : Bool) : Nat := if b then 1 else 0
def zseen (p a b : Nat) : Bool := zbt (p % 12) (a % 12) (b % 12) && zbt (p / 12) (a / 12) (b / 12)
def pbt (v a b : Int32) : Int32 := if b < a then (if v < b then 0 else if a < v then 0 else 1) else (if v < a then 0 else if b < v then 0 else 1)
def pbm (v a b : Int32) : Int32 := if b ≤ a then pin v b a else pin v a b
theorem pbt_1 : ∀ v, v < 12 → ∀ a, a < 12 → ∀ b, b < 12 → pbt (nI v) (nI a) (nI b) = nI (zi (zbt v a b)) ∧ pbm (nI v) (nI a) (nI b) = nI (zi (zbt v a b)) := by decide +kernel
theorem x_btw {F v a b : Nat} {S : sm_t} (hv : v < 12) (ha : a < 12) (hb : b < 12) : x6_isBetween F (nI v) (nI a) (nI b) S = some (nI (zi (zbt v a b)), S) := by
  rw [← (pbt_1 v hv a ha b hb).1]
  unfold x6_isBetween pbt
  (repeat' split) <;> rfl
theorem rz_pin {x a b : Int32} {S : sm_t} : sm_rz (pin x a b) S = some (pin x a b, S) := by
  unfold sm_rz
  refine if_pos ?_
  unfold pin
  split
  · exact Or.inl rfl
  · split
    · exact Or.inl rfl
    · exact Or.inr rfl
theorem m_btw {F v a b : Nat} {S : sm_t} (hv : v < 12) (ha : a < 12) (hb : b < 12) : x8_isBetween F (nI v) (nI a) (nI b) S = some (nI (zi (zbt v a b)), S) := by
  rw [← (pbt_1 v hv a ha b hb).2]
  unfold x8_isBetween pbm
  rw [m_pin, m_pin, tt_cI, tt_cI, rz_pin, rz_pin]
  split <;> rfl
theorem zi_0 {b : Bool} (h : b = false) : nI (zi b) = 0 := by
  rw [h]
  rfl
theorem zi_1 {b : Bool} (h : b = true) : ¬ nI (zi b) = 0 := by
  rw [h]
  decide
theorem x_saw {F t p : Nat} {g : Nat → Nat} {S : sm_t} (ht : sm_sq t = some (.inr 5)) (hg : ∀ i, i < 5 → S.1 t i = nI (g i)) (hp : p < 120) (ha : g 1 < 120) (hb : g 2 < 120) : x6_saw F t (nI p) S = some (nI (zi (zseen p (g 1) (g 2))), S) := by
  unfold x6_saw
  rw [tt_on ht, tt_n, tt_n, hg 1 (by omega), hg 2 (by omega), tt_r12 (by omega), tt_r12 (by omega), tt_r12 (by omega), x_btw (by omega) (by omega) (by omega), tt_cI]
  unfold zseen
  cases q : zbt (p % 12) (g 1 % 12) (g 2 % 12) with
  | false =>
    rw [if_pos (zi_0 rfl)]
    rfl
  | true =>
    rw [if_neg (zi_1 rfl), tt_n, tt_n, hg 1 (by omega), hg 2 (by omega), tt_d12 (by omega), tt_d12 (by omega), tt_d12 (by omega), x_btw (by omega) (by omega) (by omega), tt_cI]
    cases q1 : zbt (p / 12) (g 1 / 12) (g 2 / 12) with
    | false => rw [if_pos (zi_0 rfl)]; rfl
    | true => rw [if_neg (zi_1 rfl)]; rfl
theorem m_saw {F p a b : Nat} {S : sm_t} (hp : p < 120) (ha : a < 120) (hb : b < 120) : x8_isSeen F (nI p) (nI a) (nI b) S = some (nI (zi (zseen p a b)), S) := by
  unfold x8_isSeen
  rw [tt_r12 (by omega), tt_r12 (by omega), tt_r12 (by omega), tt_d12 (by omega), tt_d12 (by omega), tt_d12 (by omega), m_btw (by omega) (by omega) (by omega), tt_cI]
  unfold zseen
  cases q : zbt (p % 12) (a % 12) (b % 12) with
  | false =>
    rw [if_pos (zi_0 rfl)]
    rfl
  | true =>
    rw [if_neg (zi_1 rfl), m_btw (by omega) (by omega) (by omega), tt_cI]
    cases q1 : zbt (p / 12) (a / 12) (b / 12) with
    | false => rw [if_pos (zi_0 rfl)]; rfl
    | true => rw [if_neg (zi_1 rfl)]; rfl
theorem zfar_lt {c d : Nat} (hc : c < 120) (hd : d < 120) : zfar c d < 12 := by
  unfold zfar zd
  omega
/-! burnt -/
def pbw (v : Int32) : Option Int32 := if v < 0 ∨ 2 < v then some 0 else if v = 0 then some 12 else if v = 1 then some 6 else if v = 2 then some 2 else none
theorem x_bw {F : Nat} {l0 : Int32} {S : sm_t} : x6_burntWeight F l0 S = (pbw l0).map (fun v => (v, S)) := by
  unfold x6_burntWeight pbw
  (repeat' split) <;> rfl
def pmb (a c : Int32) : Int32 := if a = c then 12 else if sm_ab (a - c) = 1 then 6 else if sm_ab (a - c) = 2 then 2 else 0
theorem pbw_1 : ∀ a, a < 7 → ∀ p, p < 7 → pbw (sm_ab (nI a - nI p)) = some (nI (zbw a p)) ∧ pmb (nI a) (nI p) = nI (zbw a p) := by decide +kernel
/-! what a sign weighs -/
def zwt (g : Nat → Nat) (p : Nat) : Nat := if g 0 = 1 then zhw (g 3) (zfar (g 2) p) else if g 0 = 2 then (if zfar (g 2) p ≤ g 3 then 12 else if zfar (g 2) p ≤ 2 * g 3 + 1 then 4 else 1) else if g 0 = 3 then zbw (g 1) p else if g 0 = 4 then (if zseen p (g 1) (g 2) = true then 12 - g 3 else 12) else if g 0 = 5 then (if zsd (g 1) p = nI (g 2) then 12 else 12 - g 3) else if g 0 = 7 then (if zfar (g 1) p ≤ g 2 then 12 else 12 - g 3) else 12
theorem zwt_le (g : Nat → Nat) (p : Nat) : zwt g p ≤ 12 := by
  unfold zwt
  have h1 := zhw_le (g 3) (zfar (g 2) p)
  have h2 := zbw_le (g 1) p
  (repeat' split) <;> omega
theorem sb_12 {n : Nat} (h : n ≤ 12) : (12 : Int32) - nI n = nI (12 - n) := pk_sub (a := 12) h
theorem x_weight {F t p : Nat} {g : Nat → Nat} {S : sm_t} (ht : sm_sq t = some (.inr 5)) (hg : ∀ i, i < 5 → S.1 t i = nI (g i)) (hw : zw_sg (g 0) (g 1) (g 2) (g 3) (g 4)) (hp : p < 120) (hp3 : g 0 = 3 → p < 7) : x6_weight F t (nI p) S = some (nI (zwt g p), S) := by
  have g0 := hg 0 (by omega)
  have g1 := hg 1 (by omega)
  have g2 := hg 2 (by omega)
  have g3 := hg 3 (by omega)
  unfold x6_weight
  rw [tt_on ht, tt_n, g0]
  rcases hw.2 with ⟨k, h⟩ | ⟨k | k, h⟩ | ⟨k, h⟩ | ⟨k, h⟩ | ⟨k | k, h⟩ | ⟨k, h⟩
  · rw [show zwt g p = 12 by unfold zwt; rw [k]; rfl, k]
    rfl
  · rw [show zwt g p = zhw (g 3) (zfar (g 2) p) by unfold zwt; rw [k]; rfl, k, if_neg (by decide), if_pos (by decide), tt_n, tt_n, g3, g2, x_apart (by omega) (by omega), tt_cI, x_heard (by omega) (zfar_lt (by omega) hp), tt_cI]
  · rw [show zwt g p = (if zfar (g 2) p ≤ g 3 then 12 else if zfar (g 2) p ≤ 2 * g 3 + 1 then 4 else 1) by unfold zwt; rw [k]; rfl, k, if_neg (by decide), if_neg (by decide), if_pos (by decide), tt_n, tt_n, g3, g2, x_apart (by omega) (by omega), tt_cI]
    have hf := zfar_lt (show g 2 < 120 by omega) hp
    unfold x6_fixedWeight
    rw [tk_m2, tk_b1]
    by_cases q : zfar (g 2) p ≤ g 3
    · rw [if_neg (nI_nlt q (by omega)), if_pos q]
      rfl
    · rw [if_pos (nI_lt (by omega) (by omega)), if_neg q]
      by_cases q1 : zfar (g 2) p ≤ 2 * g 3 + 1
      · rw [if_neg (nI_nlt q1 (by omega)), if_pos q1]
        rfl
      · rw [if_pos (nI_lt (by omega) (by omega)), if_neg q1]
        rfl
  · rw [show zwt g p = zbw (g 1) p by unfold zwt; rw [k]; rfl, k, if_neg (by decide), if_neg (by decide), if_neg (by decide), if_pos (by decide), tt_n, g1, x_bw, (pbw_1 (g 1) (by omega) p (hp3 k)).1]
    rfl
  · rw [show zwt g p = (if zseen p (g 1) (g 2) = true then 12 - g 3 else 12) by unfold zwt; rw [k]; rfl, k, if_neg (by decide), if_neg (by decide), if_neg (by decide), if_neg (by decide), if_pos (by decide), x_saw ht hg hp (by omega) (by omega), tt_cI]
    cases q : zseen p (g 1) (g 2) with
    | false =>
      rw [if_pos (zi_0 rfl), if_neg (by decide)]
      rfl
    | true => rw [if_neg (zi_1 rfl), tt_n, g3, sb_12 (by omega), if_pos rfl]
  · rw [show zwt g p = (if zsd (g 1) p = nI (g 2) then 12 else 12 - g 3) by unfold zwt; rw [k]; rfl, k, if_neg (by decide), if_neg (by decide), if_neg (by decide), if_neg (by decide), if_neg (by decide), if_pos (by decide)]
    unfold x6_isFrom
    rw [tt_on ht, tt_n, g1, x_side (by omega) (by omega), tt_cI, tt_n, g2]
    by_cases q : zsd (g 1) p = nI (g 2)
    · rw [if_pos q, if_pos q, tt_cI, if_neg (by decide)]
      rfl
    · rw [if_neg q, if_neg q, tt_cI, if_pos rfl, tt_n, g3, sb_12 (by omega)]
  · rw [show zwt g p = 12 by unfold zwt; rw [k]; rfl, k]
    rfl
  · rw [show zwt g p = (if zfar (g 1) p ≤ g 2 then 12 else 12 - g 3) by unfold zwt; rw [k]; rfl, k, if_neg (by decide), if_neg (by decide), if_neg (by decide), if_neg (by decide), if_neg (by decide), if_neg (by decide), if_neg (by decide), if_pos (by decide), tt_n, g1, x_apart (by omega) (by omega), tt_cI, tt_n, g2]
    have hf := zfar_lt (show g 1 < 120 by omega) hp
    by_cases q : zfar (g 1) p ≤ g 2
    · rw [if_neg (nI_nlt q (by omega)), if_pos q]
      rfl
    · rw [if_pos (nI_lt (by omega) (by omega)), if_neg q, tt_n, g3, sb_12 (by omega)]
theorem m_weight {F e p : Nat} {g : Nat → Nat} {S : sm_t} (ht : ∀ i, i < 5 → x8_tell F (nI e) (nI i) S = some (nI (g i), S)) (hw : zw_sg (g 0) (g 1) (g 2) (g 3) (g 4)) (hp : p < 120) (hp3 : g 0 = 3 → p < 7) : x8_weight F (nI e) (nI p) S = some (nI (zwt g p), S) := by
  have g0 : x8_tell F (nI e) 0 S = _ := ht 0 (by omega)
  have g1 : x8_tell F (nI e) 1 S = _ := ht 1 (by omega)
  have g2 : x8_tell F (nI e) 2 S = _ := ht 2 (by omega)
  have g3 : x8_tell F (nI e) 3 S = _ := ht 3 (by omega)
  unfold x8_weight
  rw [g1, tt_cI, g2, tt_cI, g3, tt_cI, g0, tt_cI]
  rcases hw.2 with ⟨k, h⟩ | ⟨k | k, h⟩ | ⟨k, h⟩ | ⟨k, h⟩ | ⟨k | k, h⟩ | ⟨k, h⟩
  · rw [show zwt g p = 12 by unfold zwt; rw [k]; rfl, k]
    rfl
  · rw [show zwt g p = zhw (g 3) (zfar (g 2) p) by unfold zwt; rw [k]; rfl, k, if_neg (by decide), if_pos (by decide), m_far (by omega) (by omega), tt_cI, m_heard (by omega) (zfar_lt (by omega) hp), tt_cI]
  · rw [show zwt g p = (if zfar (g 2) p ≤ g 3 then 12 else if zfar (g 2) p ≤ 2 * g 3 + 1 then 4 else 1) by unfold zwt; rw [k]; rfl, k, if_neg (by decide), if_neg (by decide), if_pos (by decide), m_far (by omega) (by omega), tt_cI, m_far (by omega) (by omega)]
    have hf := zfar_lt (show g 2 < 120 by omega) hp
    rw [tk_m2, tk_b1]
    by_cases q : zfar (g 2) p ≤ g 3
    · rw [if_neg (nI_nlt q (by omega)), if_pos q]
      rfl
    · rw [if_pos (nI_lt (by omega) (by omega)), if_neg q]
      by_cases q1 : zfar (g 2) p ≤ 2 * g 3 + 1
      · rw [tt_cI, if_neg (nI_nlt q1 (by omega)), if_pos q1]
        rfl
      · rw [tt_cI, if_pos (nI_lt (by omega) (by omega)), if_neg q1]
        rfl
  · rw [show zwt g p = zbw (g 1) p by unfold zwt; rw [k]; rfl, k, if_neg (by decide), if_neg (by decide), if_neg (by decide), if_pos (by decide), ab_2, tt_cI, ← (pbw_1 (g 1) (by omega) p (hp3 k)).2]
    unfold pmb
    split
    · rfl
    · split
      · rfl
      · rw [ab_2, tt_cI]
        split <;> rfl
  · rw [show zwt g p = (if zseen p (g 1) (g 2) = true then 12 - g 3 else 12) by unfold zwt; rw [k]; rfl, k, if_neg (by decide), if_neg (by decide), if_neg (by decide), if_neg (by decide), if_pos (by decide), m_saw hp (by omega) (by omega), tt_cI]
    cases q : zseen p (g 1) (g 2) with
    | false =>
      rw [if_pos (zi_0 rfl), if_neg (by decide)]
      rfl
    | true => rw [if_neg (zi_1 rfl), sb_12 (by omega), if_pos rfl]
  · rw [show zwt g p = (if zsd (g 1) p = nI (g 2) then 12 else 12 - g 3) by unfold zwt; rw [k]; rfl, k, if_neg (by decide), if_neg (by decide), if_neg (by decide), if_neg (by decide), if_neg (by decide), if_pos (by decide)]
    rw [m_side (by omega) (by omega), tt_cI]
    by_cases q : zsd (g 1) p = nI (g 2)
    · rw [if_pos q, if_pos q]
      rfl
    · rw [if_neg q, if_neg q, sb_12 (by omega)]
  · rw [show zwt g p = 12 by unfold zwt; rw [k]; rfl, k]
    rfl
  · rw [show zwt g p = (if zfar (g 1) p ≤ g 2 then 12 else 12 - g 3) by unfold zwt; rw [k]; rfl, k, if_neg (by decide), if_neg (by decide), if_neg (by decide), if_neg (by decide), if_neg (by decide), if_neg (by decide), if_neg (by decide), if_pos (by decide), m_far (by omega) (by omega), tt_cI]
    have hf := zfar_lt (show g 1 < 120 by omega) hp
    by_cases q : zfar (g 1) p ≤ g 2
    · rw [if_neg (nI_nlt q (by omega)), if_pos q]
      rfl
    · rw [if_pos (nI_lt (by omega) (by omega)), if_neg q, sb_12 (by omega)]
