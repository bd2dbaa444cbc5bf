/-! ===== an item, the reference's way ===== -/
def q6 (b : Nat → Int32) (p nu ma : Int32) : Nat → Int32 := fun k => if k = 14 then p else if k = 15 then nu else if k = 16 then ma else b k
def mR (T : sm_t) (p : Nat) (nu : Int32) (ma : Nat) (g : Nat → Int32) : sm_t := wf (wf T 52 (q6 (T.1 52) (nI p) nu (nI ma))) 62 g
def rm (T : sm_t) (t n : Nat) (w : Nat → Int32) : Prop := t < 4 ∧ n ≤ 80 ∧ T.1 57 t = nI n ∧ ∀ k, k < n → T.1 58 (80 * t + k) = w k
theorem mR_51 {T : sm_t} {p ma : Nat} {nu : Int32} {g : Nat → Int32} : (mR T p nu ma g).1 52 = q6 (T.1 52) (nI p) nu (nI ma) := by
  unfold mR
  rw [wf_o (by omega), wf_s]
theorem mR_61 {T : sm_t} {p ma : Nat} {nu : Int32} {g : Nat → Int32} : (mR T p nu ma g).1 62 = g := wf_s
theorem mR_o {T : sm_t} {p ma b : Nat} {nu : Int32} {g : Nat → Int32} (h : b ≠ 52) (h2 : b ≠ 62) : (mR T p nu ma g).1 b = T.1 b := by
  unfold mR
  rw [wf_o h2, wf_o h]
theorem s_14 {T : sm_t} {p ma : Nat} {nu : Int32} {g : Nat → Int32} : (mR T p nu ma g).1 52 14 = nI p := by rw [mR_51]; rfl
theorem s_15 {T : sm_t} {p ma : Nat} {nu : Int32} {g : Nat → Int32} : (mR T p nu ma g).1 52 15 = nu := by rw [mR_51]; rfl
theorem s_16 {T : sm_t} {p ma : Nat} {nu : Int32} {g : Nat → Int32} : (mR T p nu ma g).1 52 16 = nI ma := by rw [mR_51]; rfl
theorem mR_w {T : sm_t} {p ma i p' ma' : Nat} {nu nu' v : Int32} {g : Nat → Int32} (h : upd (q6 (T.1 52) (nI p) nu (nI ma)) i v = q6 (T.1 52) (nI p') nu' (nI ma')) : sm_wI (mR T p nu ma g) 52 i v = mR T p' nu' ma' g := by
  rw [wI_f, mR_51, h]
  unfold mR
  rw [wf_sw (by omega), wf_wf, wf_sw (by omega)]
theorem u_14 {T : sm_t} {p ma p' : Nat} {nu : Int32} {g : Nat → Int32} : sm_wI (mR T p nu ma g) 52 14 (nI p') = mR T p' nu ma g := mR_w (funext fun k => by
  by_cases q : k = 14
  · rw [q, pk_us]
    rfl
  · rw [pk_un q]
    unfold q6
    rw [if_neg q, if_neg q])
theorem u_15 {T : sm_t} {p ma : Nat} {nu nu' : Int32} {g : Nat → Int32} : sm_wI (mR T p nu ma g) 52 15 nu' = mR T p nu' ma g := mR_w (funext fun k => by
  by_cases q : k = 15
  · rw [q, pk_us]
    rfl
  · rw [pk_un q]
    unfold q6
    rw [if_neg q, if_neg q])
theorem u_16 {T : sm_t} {p ma ma' : Nat} {nu : Int32} {g : Nat → Int32} : sm_wI (mR T p nu ma g) 52 16 (nI ma') = mR T p nu ma' g := mR_w (funext fun k => by
  by_cases q : k = 16
  · rw [q, pk_us]
    rfl
  · rw [pk_un q]
    unfold q6
    rw [if_neg q, if_neg q])
theorem u_61 {T : sm_t} {p ma : Nat} {nu : Int32} {g g1 : Nat → Int32} : wf (mR T p nu ma g) 62 g1 = mR T p nu ma g1 := by
  unfold mR
  rw [wf_wf]
theorem m_here {F t n p ma : Nat} {T : sm_t} {nu : Int32} {g w : Nat → Int32} (h : rm T t n w) (hp : p ≤ n) : x8_here F (nI t) (mR T p nu ma g) = some (if p < n then w p else -9, mR T p nu ma g) := by
  have ht := h.1
  have hn := h.2.1
  unfold x8_here
  simp only [tt_n, s_14]
  rw [tt_r _ (show (mR T p nu ma g).1 57 t = nI n by rw [mR_o (by omega) (by omega)]; exact h.2.2.1) (by omega) (by omega)]
  by_cases q : p < n
  · rw [if_neg (nI_ge q (by omega)), if_pos q, tk_m80, nI_add, tt_r _ (show (mR T p nu ma g).1 58 (80 * t + p) = w p by rw [mR_o (by omega) (by omega)]; exact h.2.2.2 p q) (by omega) (by omega)]
  · rw [if_pos (nI_le (by omega) (by omega)), if_neg q]
theorem m_r14a {F p ma : Nat} {T : sm_t} {nu : Int32} {g : Nat → Int32} : x8_reads_14 F 1 (mR T p nu ma g) = some (1, mR T (p + 1) nu ma g) := by
  unfold x8_reads_14
  rw [tt_n, s_14, if_neg n10, tt_n, nI_1, u_14]
  rfl
theorem m_r14b {F p ma : Nat} {T : sm_t} {nu : Int32} {g : Nat → Int32} : x8_reads_14 F 0 (mR T p nu ma g) = some (0, mR T p nu ma g) := by
  unfold x8_reads_14
  rw [tt_n, s_14, if_pos p00, tt_n, ad_0, u_14]
  rfl
theorem m_reads {F t n p ma : Nat} {T : sm_t} {nu c : Int32} {g w : Nat → Int32} (h : rm T t n w) (hp : p ≤ n) (hc : ¬ -9 = c) : x8_reads F (nI t) c (mR T p nu ma g) = if p < n ∧ w p = c then some (1, mR T (p + 1) nu ma g) else some (0, mR T p nu ma g) := by
  unfold x8_reads
  rw [m_here h hp, tt_cI, m_r14a, m_r14b]
  by_cases q : p < n
  · rw [if_pos q]
    by_cases q1 : w p = c
    · rw [if_pos q1, if_pos ⟨q, q1⟩]
    · rw [if_neg q1, if_neg (fun x => q1 x.2)]
  · rw [if_neg q, if_neg hc, if_neg (fun x => q x.1)]
theorem in_isf {F n p : Nat} {S : sm_t} {w : Nat → Int32} : x8_in F (if p < n then w p else -9) 48 57 S = some (nI (zi (isf w n p 9)), S) := by
  rw [show (48 : Int32) = nI 48 from rfl, show (57 : Int32) = nI 57 from rfl]
  unfold isf
  by_cases q : p < n
  · rw [if_pos q]
    obtain ⟨j, hj1, hj2, e⟩ | h2 := tt_from (w p) 48 57 (by omega)
    · rw [e, m_inAB hj1 hj2 (by omega), decide_eq_true (by rw [tt_nI (by omega)]; omega)]
      rfl
    · rw [m_inABN h2 (by omega) (by omega), decide_eq_false (by omega)]
      rfl
  · rw [if_neg q, m_inABN (by left; decide) (by omega) (by omega), decide_eq_false (by omega)]
    rfl
theorem m_nm {F t n p0 m ma : Nat} {T : sm_t} {hi : Int32} {g w : Nat → Int32} (h : rm T t n w) (hm : m ≤ 3) : ∀ (k f p v : Nat), p ≤ n → p0 ≤ p → p - p0 + k = m → k < f → x8_readsNumber_11 F f (nI t) (nI m) hi (nI p0) (mR T p (nI v) ma g) = x8_readsNumber_70 F hi (nI p0) (mR T (nm w n k p v).1 (nI (nm w n k p v).2) ma g) := by
  have hn := h.2.1
  intro k
  induction k with
  | zero =>
    intro f p v hp h0 h1 h2
    obtain ⟨f, rfl⟩ : ∃ f0, f = f0 + 1 := ⟨f - 1, by omega⟩
    rw [x8_readsNumber_11, tt_n, s_14, pk_sub h0, if_pos (nI_le (by omega) (by omega))]
    rfl
  | succ k ih =>
    intro f p v hp h0 h1 h2
    obtain ⟨f, rfl⟩ : ∃ f0, f = f0 + 1 := ⟨f - 1, by omega⟩
    rw [x8_readsNumber_11, tt_n, s_14, pk_sub h0, if_neg (nI_ge (by omega) (by omega)), m_here h hp, tt_cI, in_isf, tt_cI]
    by_cases q : isf w n p 9 = true
    · have h3 := isf_t q (by omega)
      rw [q, if_neg (zi_1 rfl), tt_n, s_15, m_here h hp, tt_cI, if_pos h3.1, h3.2.2, tt_n, tt_n, tt_n, u_15, s_14, nI_1, u_14, tk_m10, nI_add, show nI (10 * v + (48 + fv w p)) - 48 = nI (10 * v + (48 + fv w p) - 48) from pk_sub (b := 48) (by omega), show 10 * v + (48 + fv w p) - 48 = 10 * v + fv w p by omega, nm_1 q]
      exact ih f (p + 1) _ (by omega) (by omega) (by omega) (by omega)
    · rw [Bool.eq_false_iff.mpr q, if_pos (zi_0 rfl), show nm w n (k + 1) p v = (p, v) from if_neg q]
theorem m_num {F t n p m hi ma : Nat} {T : sm_t} {nu : Int32} {g w : Nat → Int32} (hF : 1000 < F) (h : rm T t n w) (hp : p ≤ n) (hm : m < 3) (hh : hi < 1000) : ∃ nu1, x8_readsNumber F (nI t) (nI (m + 1)) (nI hi) (mR T p nu ma g) = (if isf w n p 9 = true then (if (nm w n (m + 1) p 0).2 ≤ hi then some (1, mR T (nm w n (m + 1) p 0).1 nu1 ma g) else some (0, mR T (nm w n (m + 1) p 0).1 nu1 ma g)) else some (0, mR T p nu1 ma g)) ∧ (isf w n p 9 = true → nu1 = nI (nm w n (m + 1) p 0).2) := by
  have hn := h.2.1
  unfold x8_readsNumber
  rw [tt_n, tt_n, s_14, u_15]
  rw [show x8_readsNumber_11 F F (nI t) (nI (m + 1)) (nI hi) (nI p) (mR T p 0 ma g) = _ from m_nm h (by omega) (m + 1) F p 0 hp (Nat.le_refl p) (by omega) (by omega)]
  unfold x8_readsNumber_70
  refine ⟨nI (nm w n (m + 1) p 0).2, ?_, fun _ => rfl⟩
  rw [tt_n, s_14, tt_n, s_15]
  have hv := nm_v (w := w) (n := n) (m + 1) p 0
  have hv2 : (nm w n (m + 1) p 0).2 < 10 ^ 3 := by
    have : (10 : Nat) ^ (m + 1) ≤ 10 ^ 3 := Nat.pow_le_pow_right (by omega) (by omega)
    omega
  have hnp := nm_p (w := w) (n := n) (m + 1) p 0 hp
  by_cases q : isf w n p 9 = true
  · have h1 : p < (nm w n (m + 1) p 0).1 := by
      have h2 := isf_t q (by omega)
      rw [nm_1 q]
      have := nm_p (w := w) (n := n) m (p + 1) (10 * 0 + fv w p) (by omega)
      omega
    rw [if_neg (nI_ge h1 (by omega)), if_pos q]
    by_cases q1 : (nm w n (m + 1) p 0).2 ≤ hi
    · rw [if_neg (nI_nlt q1 (by omega)), if_pos q1]
    · rw [if_pos (nI_lt (by omega) (by omega)), if_neg q1]
  · have e : nm w n (m + 1) p 0 = (p, 0) := if_neg q
    rw [e, if_pos (nI_le (Nat.le_refl p) (by omega)), if_neg q]
def zit (s : Nat) : Nat → Option Nat → Option Nat
  | 0, o => o
  | _ + 1, none => none
  | k + 1, some c => zit s k (znx c s)
theorem zit_12 : ∀ c, c < 120 → ∀ s, s < 8 → zit s 12 (some c) = none := by decide +kernel
theorem m_215 {F q s ma : Nat} {T : sm_t} {v : Int32} (hs : s < 8) : ∀ (k f : Nat) (o : Option Nat) (g : Nat → Int32), (∀ c, o = some c → c < 120) → zit s k o = none → k < f → x8_readsItem_215 F f 108 (z_m o) (nI s) (mR T q v ma g) = some (1, mR T q v ma (ln s v k o g)) := by
  intro k
  induction k with
  | zero =>
    intro f o g ho hi h2
    obtain ⟨f, rfl⟩ : ∃ f0, f = f0 + 1 := ⟨f - 1, by omega⟩
    obtain rfl : o = none := hi
    rw [x8_readsItem_215, if_pos rfl, if_pos (by decide)]
    rfl
  | succ k ih =>
    intro f o g ho hi h2
    obtain ⟨f, rfl⟩ : ∃ f0, f = f0 + 1 := ⟨f - 1, by omega⟩
    cases o with
    | none =>
      rw [x8_readsItem_215, if_pos rfl, if_pos (by decide)]
      rfl
    | some c =>
      have hc := ho c rfl
      rw [x8_readsItem_215, if_pos rfl, show z_m (some c) = nI c from rfl, if_neg (nI_pos (by omega)), tt_n, s_15, tt_wr hc (by omega), wI_f, mR_61, u_61, m_next hc hs, tt_cI]
      exact ih f (znx c s) _ (fun d hd => znx_lt c hc s hs d hd) hi (by omega)
theorem m_158 {F q c m ma : Nat} {T : sm_t} {v lc : Int32} {g : Nat → Int32} (hF : 1000 < F) (hc : c < 120) (hm : m ≤ 9) : ∃ g1, x8_readsItem_158 F F lc (nI c) (nI m) 0 (mR T q v ma g) = x8_readsItem_215 F F lc (nI c) (nI m) (mR T q v ma g1) ∧ ∀ d, d < 120 → g1 d = if lc = 97 then v else if lc = 114 then (if zfar c d ≤ m then v else g d) else g d := by
  refine lp0 (fun f (a : sm_t) i => x8_readsItem_158 F f lc (nI c) (nI m) i a) 120 (fun i a => ∃ g1, a = mR T q v ma g1 ∧ ∀ d, d < 120 → g1 d = if d < i then (if lc = 97 then v else if lc = 114 then (if zfar c d ≤ m then v else g d) else g d) else g d) (fun o => ∃ g1, o = x8_readsItem_215 F F lc (nI c) (nI m) (mR T q v ma g1) ∧ ∀ d, d < 120 → g1 d = if lc = 97 then v else if lc = 114 then (if zfar c d ≤ m then v else g d) else g d) (f := F) (a := mR T q v ma g) (by omega) ⟨g, rfl, fun d hd => by rw [if_neg (by omega)]⟩ (fun f a ha => ?_) (fun f i a hi ha => ?_)
  · obtain ⟨g1, rfl, hg⟩ := ha
    refine ⟨g1, ?_, fun d hd => by rw [hg d hd, if_pos hd]⟩
    change x8_readsItem_158 F (f + 1) lc (nI c) (nI m) 120 _ = _
    rw [x8_readsItem_158, if_pos (by decide)]
  · obtain ⟨g1, rfl, hg⟩ := ha
    have hf := zfar_lt hc hi
    refine Or.inr ⟨mR T q v ma (upd g1 i (if lc = 97 then v else if lc = 114 then (if zfar c i ≤ m then v else g i) else g i)), ?_, _, rfl, fun d hd => ?_⟩
    · change x8_readsItem_158 F (f + 1) lc (nI c) (nI m) (nI i) _ = x8_readsItem_158 F f lc (nI c) (nI m) (nI (i + 1)) _
      have hgi : g1 i = g i := by rw [hg i hi, if_neg (by omega)]
      rw [x8_readsItem_158, if_neg (show ¬ (120 : Int32) ≤ nI i from nI_ge (b := 120) hi (by omega)), nI_1]
      by_cases l1 : lc = 97
      · rw [if_pos l1, if_pos l1, tt_n, s_15, tt_wr hi (by omega), wI_f, mR_61, u_61]
      · rw [if_neg l1, if_neg l1]
        by_cases l2 : lc = 114
        · rw [if_pos l2, if_pos l2, m_far (by omega) (by omega), tt_cI]
          by_cases q1 : zfar c i ≤ m
          · rw [if_neg (nI_nlt q1 (by omega)), if_pos q1, tt_n, s_15, tt_wr hi (by omega), wI_f, mR_61, u_61]
          · rw [if_pos (nI_lt (by omega) (by omega)), if_neg q1, tt_rd hi (by omega), tt_wr hi (by omega), wI_f, mR_61, u_61, hgi]
        · rw [if_neg l2, if_neg l2, tt_rd hi (by omega), tt_wr hi (by omega), wI_f, mR_61, u_61, hgi]
    · by_cases p : d = i
      · rw [p, pk_us, if_pos (show i < i + 1 by omega)]
      · rw [pk_un p, hg d hd]
        by_cases p1 : d < i
        · rw [if_pos p1, if_pos (show d < i + 1 by omega)]
        · rw [if_neg p1, if_neg (show ¬ d < i + 1 by omega)]
/-- the char of a kind -/
def kc (kd : Nat) : Int32 := if kd = 0 then 97 else if kd = 1 then 114 else 108
def mro (T : sm_t) (n p ma : Nat) (g : Nat → Int32) (r : Nat × Option (Nat × Nat × Nat × Nat)) (o : Option (Int32 × sm_t)) : Prop := (∃ q kd c m v g1 nu, r = (q, some (kd, c, m, v)) ∧ p < q ∧ q ≤ n ∧ v ≤ 99 ∧ (∀ d, d < 120 → g1 d = lay kd c m v g d) ∧ o = some (1, mR T q nu ma g1)) ∨ (∃ q nu, r = (q, none) ∧ q ≤ n ∧ o = some (0, mR T q nu ma g))
theorem m_132 {F t n q p0 kd c m ma : Nat} {T : sm_t} {nu : Int32} {g w : Nat → Int32} (hF : 1000 < F) (h : rm T t n w) (hq : q ≤ n) (hp0 : p0 < q) (hkd : kd < 3) (hc : c < 120) (hm : m ≤ 9) (hm2 : kd = 2 → m < 8) : mro T n p0 ma g (ipw w n kd c m q) (x8_readsItem_132 F (nI t) (kc kd) (nI c) (nI m) (mR T q nu ma g)) := by
  have hn := h.2.1
  unfold x8_readsItem_132 ipw
  rw [m_reads h hq (by decide)]
  by_cases q1 : q < n ∧ w q = 61
  · rw [if_pos q1, if_pos q1, tt_cI, if_neg n10]
    obtain ⟨nu1, e, hnu⟩ := m_num (m := 1) (hi := 99) (ma := ma) (nu := nu) (g := g) hF h (show q + 1 ≤ n by omega) (by omega) (by omega)
    rw [show x8_readsNumber F (nI t) 2 99 (mR T (q + 1) nu ma g) = _ from e]
    by_cases q2 : isf w n (q + 1) 9 = true
    · have i2 := isf_t q2 (by omega)
      have nv := nm_v (w := w) (n := n) 2 (q + 1) 0
      have np := nm_p (w := w) (n := n) 2 (q + 1) 0 (by omega)
      rw [if_pos q2, if_pos q2, if_pos (show (nm w n (1 + 1) (q + 1) 0).2 ≤ 99 by change (nm w n 2 (q + 1) 0).2 ≤ 99; omega), tt_cI, if_neg n10, hnu q2]
      change mro T n p0 ma g ((nm w n 2 (q + 1) 0).1, some (kd, c, m, (nm w n 2 (q + 1) 0).2)) (x8_readsItem_158 F F (kc kd) (nI c) (nI m) 0 (mR T (nm w n 2 (q + 1) 0).1 (nI (nm w n 2 (q + 1) 0).2) ma g))
      obtain ⟨g1, e1, hg⟩ := m_158 (q := (nm w n 2 (q + 1) 0).1) (v := nI (nm w n 2 (q + 1) 0).2) (ma := ma) (T := T) (lc := kc kd) (g := g) hF hc hm
      rw [e1]
      have stop : ∀ f lc, 0 < f → ¬ lc = 108 → x8_readsItem_215 F f lc (nI c) (nI m) (mR T (nm w n 2 (q + 1) 0).1 (nI (nm w n 2 (q + 1) 0).2) ma g1) = some (1, mR T (nm w n 2 (q + 1) 0).1 (nI (nm w n 2 (q + 1) 0).2) ma g1) := by
        intro f lc hf hlc
        obtain ⟨f, rfl⟩ : ∃ f0, f = f0 + 1 := ⟨f - 1, by omega⟩
        rw [x8_readsItem_215, if_neg hlc]
      rcases (show kd = 0 ∨ kd = 1 ∨ kd = 2 by omega) with rfl | rfl | rfl
      · rw [stop F _ (by omega) (by decide)]
        exact Or.inl ⟨_, 0, c, m, _, g1, _, rfl, by omega, np.2, by omega, fun d hd => (hg d hd).trans (if_pos rfl), rfl⟩
      · rw [stop F _ (by omega) (by decide)]
        exact Or.inl ⟨_, 1, c, m, _, g1, _, rfl, by omega, np.2, by omega, fun d hd => (hg d hd).trans ((if_neg (by decide)).trans (if_pos rfl)), rfl⟩
      · have e2 := m_215 (F := F) (q := (nm w n 2 (q + 1) 0).1) (v := nI (nm w n 2 (q + 1) 0).2) (ma := ma) (T := T) (show m < 8 from hm2 rfl) 12 F (some c) g1 (fun d hd => by cases hd; exact hc) (zit_12 c hc m (hm2 rfl)) (by omega)
        rw [show x8_readsItem_215 F F (kc 2) (nI c) (nI m) (mR T (nm w n 2 (q + 1) 0).1 (nI (nm w n 2 (q + 1) 0).2) ma g1) = _ from e2]
        exact Or.inl ⟨_, 2, c, m, _, _, _, rfl, by omega, np.2, by omega, fun d hd => ln_c _ _ _ _ (fun d hd => (hg d hd).trans ((if_neg (by decide)).trans (if_neg (by decide)))) d hd, rfl⟩
    · rw [if_neg q2, if_neg q2, tt_cI, if_pos p00]
      exact Or.inr ⟨_, _, rfl, by omega, rfl⟩
  · rw [if_neg q1, if_neg q1, tt_cI, if_pos p00]
    exact Or.inr ⟨_, _, rfl, hq, rfl⟩
theorem m_cell38 {F t n p p0 kd mx ma : Nat} {T : sm_t} {nu : Int32} {g w : Nat → Int32} (hF : 1000 < F) (h : rm T t n w) (hp : p ≤ n) (hp0 : p0 < p) (hk : kd = 1 ∧ mx = 9 ∨ kd = 2 ∧ mx = 7) : mro T n p0 ma g (ipc w n kd mx p) (x8_readsItem_38 F (nI t) (kc kd) (mR T p nu ma g)) := by
  have hn := h.2.1
  have hkc : ¬ kc kd = 97 := by
    rcases hk with ⟨rfl, -⟩ | ⟨rfl, -⟩ <;> decide
  unfold x8_readsItem_38 ipc
  rw [if_neg hkc]
  obtain ⟨nu1, e, hnu⟩ := m_num (m := 2) (hi := 119) (ma := ma) (nu := nu) (g := g) hF h hp (by omega) (by omega)
  rw [show x8_readsNumber F (nI t) 3 119 (mR T p nu ma g) = _ from e]
  by_cases q1 : isf w n p 9 = true
  · have i1 := isf_t q1 (by omega)
    have np := nm_p (w := w) (n := n) 3 p 0 hp
    rw [if_pos q1, if_pos q1]
    by_cases q2 : (nm w n 3 p 0).2 < 120
    · rw [if_pos q2, if_pos (show (nm w n (2 + 1) p 0).2 ≤ 119 by change (nm w n 3 p 0).2 ≤ 119; omega), tt_cI, if_neg n10, hnu q1, tt_n, s_15]
      change mro T n p0 ma g (ipm w n kd mx (nm w n 3 p 0).2 (nm w n 3 p 0).1) (sm_cI (x8_reads F (nI t) 58 (mR T (nm w n 3 p 0).1 (nI (nm w n 3 p 0).2) ma g)) fun v3 S => if v3 = 0 then some (0, S) else if kc kd = 114 then x8_readsItem_93 F (nI t) (kc kd) (nI (nm w n 3 p 0).2) (nI t) 1 9 S else x8_readsItem_93 F (nI t) (kc kd) (nI (nm w n 3 p 0).2) (nI t) 1 99 S)
      unfold ipm
      rw [m_reads h np.2 (by decide)]
      by_cases q3 : (nm w n 3 p 0).1 < n ∧ w (nm w n 3 p 0).1 = 58
      · rw [if_pos q3, if_pos q3, tt_cI, if_neg n10]
        have one : ∀ hi : Nat, 9 ≤ hi → hi < 1000 → ∃ nu2, x8_readsNumber F (nI t) 1 (nI hi) (mR T ((nm w n 3 p 0).1 + 1) (nI (nm w n 3 p 0).2) ma g) = (if isf w n ((nm w n 3 p 0).1 + 1) 9 = true then some (1, mR T ((nm w n 3 p 0).1 + 2) nu2 ma g) else some (0, mR T ((nm w n 3 p 0).1 + 1) nu2 ma g)) ∧ (isf w n ((nm w n 3 p 0).1 + 1) 9 = true → nu2 = nI (fv w ((nm w n 3 p 0).1 + 1))) := by
          intro hi h9 h10
          obtain ⟨nu2, e2, hnu2⟩ := m_num (m := 0) (hi := hi) (ma := ma) (nu := nI (nm w n 3 p 0).2) (g := g) hF h (show (nm w n 3 p 0).1 + 1 ≤ n by omega) (by omega) h10
          refine ⟨nu2, ?_, fun x => ?_⟩
          · rw [show x8_readsNumber F (nI t) 1 (nI hi) (mR T ((nm w n 3 p 0).1 + 1) (nI (nm w n 3 p 0).2) ma g) = _ from e2]
            by_cases x : isf w n ((nm w n 3 p 0).1 + 1) 9 = true
            · have i3 := isf_t x (by omega)
              rw [if_pos x, if_pos x, nm_1 x]
              change (if 10 * 0 + fv w ((nm w n 3 p 0).1 + 1) ≤ hi then some (1, mR T ((nm w n 3 p 0).1 + 1 + 1) nu2 ma g) else _) = _
              rw [if_pos (by omega)]
            · rw [if_neg x, if_neg x]
          · rw [hnu2 x, nm_1 x]
            show nI (10 * 0 + fv w ((nm w n 3 p 0).1 + 1)) = _
            rw [show 10 * 0 + fv w ((nm w n 3 p 0).1 + 1) = fv w ((nm w n 3 p 0).1 + 1) by omega]
        rcases hk with ⟨rfl, rfl⟩ | ⟨rfl, rfl⟩
        · rw [if_pos (show kc 1 = 114 from rfl)]
          unfold x8_readsItem_93
          obtain ⟨nu2, e2, hnu2⟩ := one 9 (by omega) (by omega)
          rw [show x8_readsNumber F (nI t) 1 9 (mR T ((nm w n 3 p 0).1 + 1) (nI (nm w n 3 p 0).2) ma g) = _ from e2]
          by_cases q4 : isf w n ((nm w n 3 p 0).1 + 1) 9 = true
          · have i4 := isf_t q4 (by omega)
            rw [if_pos q4, if_pos q4, tt_cI, if_neg n10, hnu2 q4, tt_n, s_15, if_neg (by decide)]
            exact m_132 hF h (by omega) (by omega) (by omega) q2 i4.2.1 (by omega)
          · rw [if_neg q4, if_neg q4, tt_cI, if_pos p00]
            exact Or.inr ⟨_, _, rfl, by omega, rfl⟩
        · rw [if_neg (show ¬ kc 2 = 114 by decide)]
          unfold x8_readsItem_93
          obtain ⟨nu2, e2, hnu2⟩ := one 99 (by omega) (by omega)
          rw [show x8_readsNumber F (nI t) 1 99 (mR T ((nm w n 3 p 0).1 + 1) (nI (nm w n 3 p 0).2) ma g) = _ from e2]
          by_cases q4 : isf w n ((nm w n 3 p 0).1 + 1) 9 = true
          · have i4 := isf_t q4 (by omega)
            rw [if_pos q4, tt_cI, if_neg n10, hnu2 q4, tt_n, s_15, if_pos (show kc 2 = 108 from rfl)]
            by_cases q7 : fv w ((nm w n 3 p 0).1 + 1) ≤ 7
            · have x7 : isf w n ((nm w n 3 p 0).1 + 1) 7 = true := by
                have := of_decide_eq_true q4
                refine decide_eq_true ⟨this.1, this.2.1, ?_⟩
                rw [i4.2.2, tt_nI (by omega)]
                omega
              rw [if_pos x7, if_pos (show nI (fv w ((nm w n 3 p 0).1 + 1)) ≤ 7 from nI_le (b := 7) q7 (by omega))]
              exact m_132 hF h (by omega) (by omega) (by omega) q2 (by omega) (fun _ => by omega)
            · have x7 : ¬ isf w n ((nm w n 3 p 0).1 + 1) 7 = true := fun x => q7 (isf_t x (by omega)).2.1
              rw [if_neg x7, if_neg (show ¬ nI (fv w ((nm w n 3 p 0).1 + 1)) ≤ 7 from nI_ge (a := 7) (by omega) (by omega)), tt_n, tt_n, s_14, nI_pred, u_14]
              exact Or.inr ⟨_, _, rfl, by omega, rfl⟩
          · have x7 : ¬ isf w n ((nm w n 3 p 0).1 + 1) 7 = true := fun x => q4 (by
              have := of_decide_eq_true x
              exact decide_eq_true ⟨this.1, this.2.1, by omega⟩)
            rw [if_neg q4, if_neg x7, tt_cI, if_pos p00]
            exact Or.inr ⟨_, _, rfl, by omega, rfl⟩
      · rw [if_neg q3, if_neg q3, tt_cI, if_pos p00]
        exact Or.inr ⟨_, _, rfl, by omega, rfl⟩
    · rw [if_neg q2, if_neg (show ¬ (nm w n (2 + 1) p 0).2 ≤ 119 by change ¬ (nm w n 3 p 0).2 ≤ 119; omega), tt_cI, if_pos p00]
      exact Or.inr ⟨_, _, rfl, np.2, rfl⟩
  · rw [if_neg q1, if_neg q1, tt_cI, if_pos p00]
    exact Or.inr ⟨_, _, rfl, hp, rfl⟩
theorem m_item {F t n p ma : Nat} {T : sm_t} {nu : Int32} {g w : Nat → Int32} (hF : 1000 < F) (h : rm T t n w) (hp : p < n) : mro T n p ma g (ip w n p) (x8_readsItem F (nI t) (mR T p nu ma g)) := by
  unfold x8_readsItem
  rw [m_here h (by omega), tt_cI, if_pos hp, m_reads h (by omega) (by decide)]
  by_cases qr : w p = 114
  · rw [if_pos (show p < n ∧ w p = 114 from ⟨hp, qr⟩), tt_cI, if_neg n10, show ip w n p = ipc w n 1 9 (p + 1) from (if_neg (by rw [qr]; decide)).trans (if_pos qr), qr]
    exact m_cell38 (kd := 1) hF h (by omega) (by omega) (Or.inl ⟨rfl, rfl⟩)
  · rw [if_neg (show ¬ (p < n ∧ w p = 114) from fun x => qr x.2), tt_cI, if_pos p00, m_reads h (by omega) (by decide)]
    by_cases ql : w p = 108
    · rw [if_pos (show p < n ∧ w p = 108 from ⟨hp, ql⟩), tt_cI, if_neg n10, show ip w n p = ipc w n 2 7 (p + 1) from (if_neg (by rw [ql]; decide)).trans ((if_neg qr).trans (if_pos ql)), ql]
      exact m_cell38 (kd := 2) hF h (by omega) (by omega) (Or.inr ⟨rfl, rfl⟩)
    · rw [if_neg (show ¬ (p < n ∧ w p = 108) from fun x => ql x.2), tt_cI, if_pos p00, m_reads h (by omega) (by decide)]
      by_cases qa : w p = 97
      · rw [if_pos (show p < n ∧ w p = 97 from ⟨hp, qa⟩), tt_cI, if_neg n10, show ip w n p = ipw w n 0 0 0 (p + 1) from if_pos qa, qa]
        unfold x8_readsItem_38
        rw [if_pos rfl]
        exact m_132 (kd := 0) (c := 0) (m := 0) hF h (by omega) (by omega) (by omega) (by omega) (by omega) (by omega)
      · rw [if_neg (show ¬ (p < n ∧ w p = 97) from fun x => qa x.2), tt_cI, if_pos p00, show ip w n p = (p, none) from (if_neg qa).trans ((if_neg qr).trans (if_neg ql))]
        exact Or.inr ⟨_, _, rfl, by omega, rfl⟩
theorem m_run {F t n : Nat} {T : sm_t} {w : Nat → Int32} (hF : 1000 < F) (h : rm T t n w) : ∀ (k p it f : Nat) (nu : Int32) (g gs : Nat → Int32), p ≤ n → n - p ≤ k → k < f → (∀ d, d < 120 → g d = gs d) → ∃ p1 nu1 it1 g1, x8_goesOn_31 F f (nI t) (mR T p nu it g) = some ((rn w n k p it gs).1, mR T p1 nu1 it1 g1) ∧ ((rn w n k p it gs).1 = -9 → it1 = (rn w n k p it gs).2.1 ∧ ∀ d, d < 120 → g1 d = (rn w n k p it gs).2.2 d) := by
  have hn := h.2.1
  have ht := h.1
  have h56 : ∀ p nu it g, (mR T p nu it g).1 57 t = nI n := fun p nu it g => by
    rw [mR_o (by omega) (by omega)]
    exact h.2.2.1
  intro k
  induction k with
  | zero =>
    intro p it f nu g gs hp h1 h3 hg
    obtain ⟨f, rfl⟩ : ∃ f0, f = f0 + 1 := ⟨f - 1, by omega⟩
    refine ⟨p, nu, it, g, ?_, fun _ => ⟨rfl, hg⟩⟩
    show _ = some (-9, mR T p nu it g)
    rw [x8_goesOn_31, tt_n, s_14, tt_r _ (h56 _ _ _ _) ht (by omega), if_pos (nI_le (by omega) (by omega))]
  | succ k ih =>
    intro p it f nu g gs hp h1 h3 hg
    obtain ⟨f, rfl⟩ : ∃ f0, f = f0 + 1 := ⟨f - 1, by omega⟩
    rw [x8_goesOn_31, tt_n, s_14, tt_r _ (h56 _ _ _ _) ht (by omega)]
    by_cases q : n ≤ p
    · have e : rn w n (k + 1) p it gs = (-9, it, gs) := if_pos q
      rw [e, if_pos (nI_le q (by omega))]
      exact ⟨p, nu, it, g, rfl, fun _ => ⟨rfl, hg⟩⟩
    · rw [if_neg (nI_ge (by omega) (by omega)), m_here h hp, tt_cI, if_pos (show p < n by omega)]
      by_cases q1 : w p = 32
      · have e : rn w n (k + 1) p it gs = rn w n k (p + 1) it gs := (if_neg q).trans (if_pos q1)
        rw [if_pos q1, e, tt_n, tt_n, s_14, nI_1, u_14]
        exact ih (p + 1) it f nu g gs (by omega) (by omega) (by omega) hg
      · have e : rn w n (k + 1) p it gs = match ip w n p with
          | (q, none) => (nI q, it, gs)
          | (q, some (kd, c, m, v)) => rn w n k q (it + 1) (lay kd c m v gs) := (if_neg q).trans (if_neg q1)
        rw [if_neg q1]
        rcases m_item (ma := it) (nu := nu) (g := g) hF h (show p < n by omega) with ⟨q2, kd, c, m, v, g1, nu1, a1, a2, a3, a4, a5, a6⟩ | ⟨q2, nu1, a1, a2, a6⟩
        · rw [a1] at e
          rw [e, a6, tt_cI, if_neg n10, tt_n, tt_n, s_16, nI_1, u_16]
          exact ih q2 (it + 1) f nu1 g1 (lay kd c m v gs) a3 (by omega) (by omega) (fun d hd => by rw [a5 d hd]; exact lay_c hg d hd)
        · rw [a1] at e
          rw [e, a6, tt_cI, if_pos p00, tt_n, s_14]
          exact ⟨q2, nu1, it, g, rfl, fun x => absurd x (ne_9 (by omega))⟩
