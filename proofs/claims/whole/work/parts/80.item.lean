/-! ===== an item, the class's way ===== -/
def ln (s : Nat) (v : Int32) : Nat → Option Nat → (Nat → Int32) → (Nat → Int32)
  | 0, _, g => g
  | _ + 1, none, g => g
  | k + 1, some c, g => ln s v k (znx c s) (upd g c v)
def lay (kd c m v : Nat) (g : Nat → Int32) : Nat → Int32 := if kd = 0 then fun _ => nI v else if kd = 1 then fun d => if zfar c d ≤ m then nI v else g d else ln m (nI v) 12 (some c) g
theorem ln_c {s : Nat} {v : Int32} : ∀ k o g g1, (∀ d, d < 120 → g d = g1 d) → ∀ d, d < 120 → ln s v k o g d = ln s v k o g1 d := by
  intro k
  induction k with
  | zero => exact fun o g g1 h => h
  | succ k ih =>
    intro o g g1 h
    cases o with
    | none => exact h
    | some c =>
      refine ih _ _ _ (fun d hd => ?_)
      by_cases q : d = c
      · rw [q, pk_us, pk_us]
      · rw [pk_un q, pk_un q]
        exact h d hd
theorem lay_c {kd c m v : Nat} {g g1 : Nat → Int32} (h : ∀ d, d < 120 → g d = g1 d) : ∀ d, d < 120 → lay kd c m v g d = lay kd c m v g1 d := by
  intro d hd
  unfold lay
  by_cases q : kd = 0
  · rw [if_pos q, if_pos q]
  · rw [if_neg q, if_neg q]
    by_cases q1 : kd = 1
    · rw [if_pos q1, if_pos q1]
      show (if zfar c d ≤ m then nI v else g d) = if zfar c d ≤ m then nI v else g1 d
      rw [h d hd]
    · rw [if_neg q1, if_neg q1]
      exact ln_c _ _ _ _ h d hd
def xo (S : sm_t) (n p it : Nat) (g : Nat → Int32) (r : Nat × Option (Nat × Nat × Nat × Nat)) (S1 : sm_t) : Prop := (∃ q kd c m v g1, r = (q, some (kd, c, m, v)) ∧ p < q ∧ q ≤ n ∧ v ≤ 99 ∧ (∀ d, d < 120 → g1 d = lay kd c m v g d) ∧ S1 = xR S n q (-9) it g1) ∨ (∃ q, r = (q, none) ∧ q ≤ n ∧ S1 = xR S n q (nI q) it g)
theorem x_rr {F n q it c m v : Nat} {S : sm_t} {g : Nat → Int32} (hF : 1000 < F) (hc : c < 120) (hm : m ≤ 9) : ∃ g1, x4_readRound_33 F F (nI c) (nI m) (nI v) 0 (xR S n q (-9) it g) = some (xR S n q (-9) it g1) ∧ ∀ d, d < 120 → g1 d = lay 1 c m v g d := by
  refine lp0 (fun f (a : sm_t) i => x4_readRound_33 F f (nI c) (nI m) (nI v) i a) 120 (fun i a => ∃ g1, a = xR S n q (-9) it g1 ∧ ∀ d, d < 120 → g1 d = if d < i then lay 1 c m v g d else g d) (fun o => ∃ g1, o = some (xR S n q (-9) it g1) ∧ ∀ d, d < 120 → g1 d = lay 1 c m v g d) (f := F) (a := xR S n q (-9) it g) (by omega) ⟨g, rfl, fun d hd => by rw [if_neg (by omega)]⟩ (fun f a ha => ?_) (fun f i a hi ha => ?_)
  · obtain ⟨g1, rfl, hg⟩ := ha
    refine ⟨g1, ?_, fun d hd => by rw [hg d hd, if_pos hd]⟩
    change x4_readRound_33 F (f + 1) (nI c) (nI m) (nI v) 120 _ = _
    rw [x4_readRound_33, if_pos (by decide)]
  · obtain ⟨g1, rfl, hg⟩ := ha
    have hf := zfar_lt hc hi
    have hl : lay 1 c m v g i = if zfar c i ≤ m then nI v else g i := rfl
    have e0 : x4_readRound_33 F (f + 1) (nI c) (nI m) (nI v) (nI i) (xR S n q (-9) it g1) = if nI m < nI (zfar c i) then x4_readRound_33 F f (nI c) (nI m) (nI v) (nI (i + 1)) (xR S n q (-9) it g1) else x4_readRound_33 F f (nI c) (nI m) (nI v) (nI (i + 1)) (xR S n q (-9) it (upd g1 i (nI v))) := by
      rw [x4_readRound_33, if_neg (show ¬ (120 : Int32) ≤ nI i from nI_ge (b := 120) hi (by omega)), tt_n, r_3, if_pos rfl, x_apart (by omega) (by omega), tt_cI, tt_wr hi (by omega), wI_f, xR_46, w_46, nI_1]
    have hn : ∀ g2 : Nat → Int32, (∀ d, d < 120 → d ≠ i → g2 d = g1 d) → g2 i = lay 1 c m v g i → ∀ d, d < 120 → g2 d = if d < i + 1 then lay 1 c m v g d else g d := by
      intro g2 h1 h2 d hd
      by_cases p : d = i
      · rw [p, if_pos (by omega), h2]
      · rw [h1 d hd p, hg d hd]
        by_cases p1 : d < i
        · rw [if_pos p1, if_pos (by omega)]
        · rw [if_neg p1, if_neg (by omega)]
    by_cases q1 : zfar c i ≤ m
    · refine Or.inr ⟨xR S n q (-9) it (upd g1 i (nI v)), ?_, _, rfl, hn _ (fun d hd p => pk_un p) (by rw [pk_us, hl, if_pos q1])⟩
      exact e0.trans (if_neg (nI_nlt q1 (by omega)))
    · refine Or.inr ⟨xR S n q (-9) it g1, ?_, _, rfl, hn _ (fun d hd p => rfl) (by rw [hg i hi, if_neg (by omega), hl, if_neg q1])⟩
      exact e0.trans (if_pos (nI_lt (by omega) (by omega)))
theorem x_rl {F n q it s : Nat} {v : Int32} {S : sm_t} (hs : s < 8) : ∀ (k f i : Nat) (o : Option Nat) (g : Nat → Int32), (∀ c, o = some c → c < 120) → i + k = 12 → k < f → x4_readLine_33 F f (z_m o) (nI s) v (nI i) (xR S n q (-9) it g) = some (xR S n q (-9) it (ln s v k o g)) := by
  intro k
  induction k with
  | zero =>
    intro f i o g ho h1 h2
    obtain ⟨f, rfl⟩ : ∃ f0, f = f0 + 1 := ⟨f - 1, by omega⟩
    rw [x4_readLine_33, if_pos (show (12 : Int32) ≤ nI i from nI_le (a := 12) (by omega) (by omega))]
    rfl
  | succ k ih =>
    intro f i o g ho h1 h2
    obtain ⟨f, rfl⟩ : ∃ f0, f = f0 + 1 := ⟨f - 1, by omega⟩
    rw [x4_readLine_33, if_neg (show ¬ (12 : Int32) ≤ nI i from nI_ge (b := 12) (by omega) (by omega))]
    cases o with
    | none =>
      rw [if_pos (show z_m none = -9 from rfl)]
      rfl
    | some c =>
      have hc := ho c rfl
      rw [show z_m (some c) = nI c from rfl, if_neg (ne_9 (by omega)), tt_n, r_3, if_pos rfl, tt_wr hc (by omega), wI_f, xR_46, w_46, x_beside hc hs, tt_cI, nI_1]
      exact ih f (i + 1) (znx c s) _ (fun d hd => znx_lt c hc s hs d hd) (by omega) (by omega)
theorem x_body {F t n p p0 it mx kd : Nat} {S : sm_t} {g w : Nat → Int32} (hF : 1000 < F) (h : rx S t n w) (hp : p ≤ n) (hp0 : p0 < p) (hm : mx ≤ 9) (K5 : Int32 → Int32 → Int32 → sm_t → Option sm_t) (hK : ∀ c m v q, c < 120 → m ≤ mx → v ≤ 99 → ∃ g1, K5 (nI c) (nI m) (nI v) (xR S n q (-9) it g) = some (xR S n q (-9) it g1) ∧ ∀ d, d < 120 → g1 d = lay kd c m v g d) (hf : ∀ v1 v3 v5 q, q ≤ 80 → K5 v1 v3 v5 (xR S n q (nI q) it g) = some (xR S n q (nI q) it g)) : ∃ S1, (sm_cI (x4_takeCell F (xR S n p (-9) it g)) fun v1 S => sm_cV (x4_take F 58 S) fun S => sm_cI (x4_takeFigure F (nI mx) S) fun v3 S => sm_cV (x4_take F 61 S) fun S => sm_cI (x4_takeNumber F 2 S) fun v5 S => K5 v1 v3 v5 S) = some S1 ∧ xo S n p0 it g (ipc w n kd mx p) S1 := by
  have hn := h.2.1
  obtain ⟨v, e, hv⟩ := x_tc (it := it) (g := g) hF h hp
  have tn2 : ∀ q : Nat, q ≤ 80 → x4_takeNumber F 2 (xR S n q (nI q) it g) = some (-9, xR S n q (nI q) it g) := fun q hq => f_tn (m := 1) hF hq (by omega)
  rw [e, tt_cI]
  unfold ipc
  by_cases q1 : isf w n p 9 = true
  · have i1 := isf_t q1 (by omega)
    have np := nm_p (w := w) (n := n) 3 p 0 hp
    rw [if_pos q1, if_pos q1, hv q1]
    by_cases q2 : (nm w n 3 p 0).2 < 120
    · rw [if_pos q2, if_pos q2]
      unfold ipm
      rw [x_take h np.2, tt_cV]
      by_cases q3 : (nm w n 3 p 0).1 < n ∧ w (nm w n 3 p 0).1 = 58
      · rw [if_pos q3, if_pos q3, x_tf h (by omega) hm]
        by_cases q4 : isf w n ((nm w n 3 p 0).1 + 1) mx = true
        · have i4 := isf_t q4 hm
          rw [if_pos q4, if_pos q4, tt_cI, x_take h (by omega), tt_cV]
          unfold ipw
          rw [show (nm w n 3 p 0).1 + 1 + 1 = (nm w n 3 p 0).1 + 2 by omega]
          by_cases q5 : (nm w n 3 p 0).1 + 2 < n ∧ w ((nm w n 3 p 0).1 + 2) = 61
          · rw [if_pos q5, if_pos q5, show x4_takeNumber F 2 (xR S n ((nm w n 3 p 0).1 + 2 + 1) (-9) it g) = _ from x_tn (m := 1) hF h (by omega) (by omega)]
            by_cases q6 : isf w n ((nm w n 3 p 0).1 + 2 + 1) 9 = true
            · have i6 := isf_t q6 (by omega)
              have np2 := nm_p (w := w) (n := n) 2 ((nm w n 3 p 0).1 + 2 + 1) 0 (by omega)
              have nv2 := nm_v (w := w) (n := n) 2 ((nm w n 3 p 0).1 + 2 + 1) 0
              rw [if_pos q6, if_pos q6, tt_cI]
              obtain ⟨g1, k1, k2⟩ := hK (nm w n 3 p 0).2 (fv w ((nm w n 3 p 0).1 + 1)) (nm w n 2 ((nm w n 3 p 0).1 + 2 + 1) 0).2 (nm w n 2 ((nm w n 3 p 0).1 + 2 + 1) 0).1 q2 i4.2.1 (by omega)
              exact ⟨_, k1, Or.inl ⟨_, kd, _, _, _, g1, rfl, by omega, np2.2, by omega, k2, rfl⟩⟩
            · rw [if_neg q6, if_neg q6, tt_cI, hf _ _ _ _ (by omega)]
              exact ⟨_, rfl, Or.inr ⟨_, rfl, by omega, rfl⟩⟩
          · rw [if_neg q5, if_neg q5, tn2 _ (by omega), tt_cI, hf _ _ _ _ (by omega)]
            exact ⟨_, rfl, Or.inr ⟨_, rfl, by omega, rfl⟩⟩
        · rw [if_neg q4, if_neg q4, tt_cI, f_take (by omega), tt_cV, tn2 _ (by omega), tt_cI, hf _ _ _ _ (by omega)]
          exact ⟨_, rfl, Or.inr ⟨_, rfl, by omega, rfl⟩⟩
      · rw [if_neg q3, if_neg q3, f_tf (by omega), tt_cI, f_take (by omega), tt_cV, tn2 _ (by omega), tt_cI, hf _ _ _ _ (by omega)]
        exact ⟨_, rfl, Or.inr ⟨_, rfl, by omega, rfl⟩⟩
    · rw [if_neg q2, if_neg q2, f_take (by omega), tt_cV, f_tf (by omega), tt_cI, f_take (by omega), tt_cV, tn2 _ (by omega), tt_cI, hf _ _ _ _ (by omega)]
      exact ⟨_, rfl, Or.inr ⟨_, rfl, by omega, rfl⟩⟩
  · rw [if_neg q1, if_neg q1, f_take (by omega), tt_cV, f_tf (by omega), tt_cI, f_take (by omega), tt_cV, tn2 _ (by omega), tt_cI, hf _ _ _ _ (by omega)]
    exact ⟨_, rfl, Or.inr ⟨_, rfl, hp, rfl⟩⟩
theorem x_item {F t n p it : Nat} {S : sm_t} {g w : Nat → Int32} (hF : 1000 < F ∧ F < 2147483648) (h : rx S t n w) (hp : p < n) : ∃ S1, x4_readItem F (xR S n p (-9) it g) = some S1 ∧ xo S n p it g (ip w n p) S1 := by
  have hn := h.2.1
  unfold x4_readItem ip
  simp only [tt_n, r_2, nI_1, w_2, w_3]
  rw [r_bd h hp]
  by_cases qa : w p = 97
  · rw [if_pos qa, if_pos qa, x_take h (by omega), tt_cV]
    unfold ipw
    by_cases q5 : p + 1 < n ∧ w (p + 1) = 61
    · rw [if_pos q5, if_pos q5, show x4_takeNumber F 2 (xR S n (p + 1 + 1) (-9) it g) = _ from x_tn (m := 1) hF.1 h (by omega) (by omega)]
      by_cases q6 : isf w n (p + 1 + 1) 9 = true
      · have i6 := isf_t q6 (by omega)
        have np2 := nm_p (w := w) (n := n) 2 (p + 1 + 1) 0 (by omega)
        have nv2 := nm_v (w := w) (n := n) 2 (p + 1 + 1) 0
        rw [if_pos q6, if_pos q6, tt_cI, r_3, if_pos rfl]
        obtain ⟨g1, e, hg⟩ := x_fill (F := F) (v := nI (nm w n (1 + 1) (p + 1 + 1) 0).2) (S := xR S n (nm w n (1 + 1) (p + 1 + 1) 0).1 (-9) it g) (show sm_sq 47 = some (.inl (.int, 120)) by decide) (by omega) hF.2
        rw [e, tt_cV, w_46]
        exact ⟨_, rfl, Or.inl ⟨_, 0, 0, 0, _, g1, rfl, by omega, np2.2, by omega, fun d hd => by rw [hg d, if_pos hd]; rfl, rfl⟩⟩
      · rw [if_neg q6, if_neg q6, tt_cI, r_3, if_neg (ne_9 (by omega))]
        exact ⟨_, rfl, Or.inr ⟨_, rfl, by omega, rfl⟩⟩
    · rw [if_neg q5, if_neg q5, show x4_takeNumber F 2 (xR S n (p + 1) (nI (p + 1)) it g) = _ from f_tn (m := 1) hF.1 (by omega) (by omega), tt_cI, r_3, if_neg (ne_9 (by omega))]
      exact ⟨_, rfl, Or.inr ⟨_, rfl, by omega, rfl⟩⟩
  · rw [if_neg qa, if_neg qa, r_bd h hp]
    by_cases qr : w p = 114
    · rw [if_pos qr, if_pos qr]
      obtain ⟨S1, e, ho⟩ := x_body (g := g) (it := it) (kd := 1) (mx := 9) hF.1 h (show p + 1 ≤ n by omega) (show p < p + 1 by omega) (by omega) (fun v1 v3 v5 S => x4_readRound_33 F F v1 v3 v5 0 S) (fun c m v q hc hm hv => x_rr hF.1 hc (by omega)) (fun v1 v3 v5 q hq => by
        have : ∀ f, 0 < f → x4_readRound_33 F f v1 v3 v5 0 (xR S n q (nI q) it g) = some (xR S n q (nI q) it g) := by
          intro f hf
          obtain ⟨f, rfl⟩ : ∃ f0, f = f0 + 1 := ⟨f - 1, by omega⟩
          rw [x4_readRound_33, if_neg (by decide), tt_n, r_3, if_neg (ne_9 (by omega))]
        exact this F (by omega))
      refine ⟨S1, ?_, ho⟩
      have e1 : x4_readRound F (xR S n (p + 1) (-9) it g) = some S1 := e
      rw [e1, tt_cV]
    · rw [if_neg qr, if_neg qr, r_bd h hp]
      by_cases ql : w p = 108
      · rw [if_pos ql, if_pos ql]
        obtain ⟨S1, e, ho⟩ := x_body (g := g) (it := it) (kd := 2) (mx := 7) hF.1 h (show p + 1 ≤ n by omega) (show p < p + 1 by omega) (by omega) (fun v1 v3 v5 S => x4_readLine_33 F F v1 v3 v5 0 S) (fun c m v q hc hm hv => ⟨ln m (nI v) 12 (some c) g, x_rl (F := F) (show m < 8 by omega) 12 F 0 (some c) g (fun d hd => by cases hd; exact hc) (by omega) (by omega), fun d hd => rfl⟩) (fun v1 v3 v5 q hq => by
          have : ∀ f, 0 < f → x4_readLine_33 F f v1 v3 v5 0 (xR S n q (nI q) it g) = some (xR S n q (nI q) it g) := by
            intro f hf
            obtain ⟨f, rfl⟩ : ∃ f0, f = f0 + 1 := ⟨f - 1, by omega⟩
            rw [x4_readLine_33, if_neg (by decide), tt_n, r_3, if_neg (show ¬ nI q = -9 from ne_9 (by omega))]
            split <;> rfl
          exact this F (by omega))
        refine ⟨S1, ?_, ho⟩
        have e1 : x4_readLine F (xR S n (p + 1) (-9) it g) = some S1 := e
        rw [e1, tt_cV]
      · rw [if_neg ql, if_neg ql]
        exact ⟨_, rfl, Or.inr ⟨_, rfl, by omega, rfl⟩⟩
/-- all items -/
def rn (w : Nat → Int32) (n : Nat) : Nat → Nat → Nat → (Nat → Int32) → Int32 × Nat × (Nat → Int32)
  | 0, _, it, g => (-9, it, g)
  | k + 1, p, it, g => if n ≤ p then (-9, it, g) else if w p = 32 then rn w n k (p + 1) it g else match ip w n p with
    | (q, none) => (nI q, it, g)
    | (q, some (kd, c, m, v)) => rn w n k q (it + 1) (lay kd c m v g)
theorem x_skf {F t n q it : Nat} {S : sm_t} {g w : Nat → Int32} {fl : Int32} (h : rx S t n w) : ∀ (k f p : Nat), p ≤ n → n - p ≤ k → k < f → ∃ p1, p1 ≤ n ∧ x4_skipBlanks_0 F f (xR S n p fl it g) = some (xR S n p1 fl it g) := by
  have hn := h.2.1
  intro k
  induction k with
  | zero =>
    intro f p hp h1 h2
    obtain ⟨f, rfl⟩ : ∃ f0, f = f0 + 1 := ⟨f - 1, by omega⟩
    refine ⟨p, hp, ?_⟩
    rw [x4_skipBlanks_0, tt_n, tt_n, r_2, r_1, if_pos (nI_le (by omega) (by omega))]
  | succ k ih =>
    intro f p hp h1 h2
    obtain ⟨f, rfl⟩ : ∃ f0, f = f0 + 1 := ⟨f - 1, by omega⟩
    rw [x4_skipBlanks_0]
    simp only [tt_n, r_1, r_2, nI_1, w_2]
    by_cases q : p < n
    · rw [if_neg (nI_ge q (by omega)), r_bd h q]
      by_cases q1 : w p = 32
      · rw [if_pos q1]
        exact ih f (p + 1) (by omega) (by omega) (by omega)
      · rw [if_neg q1]
        exact ⟨p, hp, rfl⟩
    · rw [if_pos (nI_le (by omega) (by omega))]
      exact ⟨p, hp, rfl⟩
theorem x_run {F t n : Nat} {S : sm_t} {w : Nat → Int32} (hF : 1000 < F ∧ F < 2147483648) (h : rx S t n w) : ∀ (k p it tn f fs : Nat) (g gs : Nat → Int32), p ≤ n → n - p ≤ k → tn ≤ p → k < f → n - p < fs → (∀ d, d < 120 → g d = gs d) → ∃ p1 it1 g1, sm_cV (x4_skipBlanks_0 F fs (xR S n p (-9) it g)) (fun S => x4_read_40 F f (nI tn) S) = some ((rn w n k p it gs).1, xR S n p1 (rn w n k p it gs).1 it1 g1) ∧ ((rn w n k p it gs).1 = -9 → it1 = (rn w n k p it gs).2.1 ∧ ∀ d, d < 120 → g1 d = (rn w n k p it gs).2.2 d) := by
  have hn := h.2.1
  intro k
  induction k with
  | zero =>
    intro p it tn f fs g gs hp h1 h2 h3 h4 hg
    obtain ⟨fs, rfl⟩ : ∃ f0, fs = f0 + 1 := ⟨fs - 1, by omega⟩
    obtain ⟨f, rfl⟩ : ∃ f0, f = f0 + 1 := ⟨f - 1, by omega⟩
    refine ⟨p, it, g, ?_, fun _ => ⟨rfl, hg⟩⟩
    show _ = some (-9, xR S n p (-9) it g)
    rw [x4_skipBlanks_0, tt_n, tt_n, r_2, r_1, if_pos (nI_le (by omega) (by omega)), tt_cV, x4_read_40, tt_n, r_1]
    simp only [tt_n, r_1, r_2, r_3]
    rw [if_pos (nI_le (show n ≤ p by omega) (by omega))]
    split <;> rfl
  | succ k ih =>
    intro p it tn f fs g gs hp h1 h2 h3 h4 hg
    obtain ⟨fs, rfl⟩ : ∃ f0, fs = f0 + 1 := ⟨fs - 1, by omega⟩
    rw [x4_skipBlanks_0]
    simp only [tt_n, r_1, r_2, nI_1, w_2]
    by_cases q : n ≤ p
    · obtain ⟨f, rfl⟩ : ∃ f0, f = f0 + 1 := ⟨f - 1, by omega⟩
      have e : rn w n (k + 1) p it gs = (-9, it, gs) := if_pos q
      rw [e]
      refine ⟨p, it, g, ?_, fun _ => ⟨rfl, hg⟩⟩
      rw [if_pos (nI_le q (by omega)), tt_cV, x4_read_40]
      simp only [tt_n, r_1, r_2, r_3]
      rw [if_pos (nI_le q (by omega))]
      split <;> rfl
    · rw [if_neg (nI_ge (by omega) (by omega)), r_bd h (by omega)]
      by_cases q1 : w p = 32
      · have e : rn w n (k + 1) p it gs = rn w n k (p + 1) it gs := (if_neg q).trans (if_pos q1)
        rw [if_pos q1, e]
        exact ih (p + 1) it tn f fs g gs (by omega) (by omega) (by omega) (by omega) (by omega) hg
      · obtain ⟨f, rfl⟩ : ∃ f0, f = f0 + 1 := ⟨f - 1, by omega⟩
        have e : rn w n (k + 1) p it gs = match ip w n p with
          | (q, none) => (nI q, it, gs)
          | (q, some (kd, c, m, v)) => rn w n k q (it + 1) (lay kd c m v gs) := (if_neg q).trans (if_neg q1)
        obtain ⟨S1, e1, ho⟩ := x_item (it := it) (g := g) hF h (show p < n by omega)
        rw [if_neg q1, tt_cV, x4_read_40]
        simp only [tt_n, r_1, r_2, r_3]
        rw [if_neg (nI_ge (show tn < n by omega) (by omega)), if_neg (nI_ge (by omega) (by omega)), if_pos trivial, e1, tt_cV]
        rcases ho with ⟨q2, kd, c, m, v, g1, a1, a2, a3, a4, a5, rfl⟩ | ⟨q2, a1, a2, rfl⟩
        · rw [a1] at e
          rw [e, r_5, nI_1, nI_1, w_5]
          unfold x4_skipBlanks
          exact ih q2 (it + 1) (tn + 1) f F g1 (lay kd c m v gs) a3 (by omega) (by omega) (by omega) (by omega) (fun d hd => by rw [a5 d hd]; exact lay_c hg d hd)
        · rw [a1] at e
          rw [e, r_5, nI_1, nI_1, w_5]
          unfold x4_skipBlanks
          obtain ⟨p1, b1, b2⟩ := x_skf (F := F) (q := 0) (it := it + 1) (g := g) (fl := nI q2) h n F q2 a2 (by omega) (by omega)
          refine ⟨p1, it + 1, g, ?_, fun x => absurd x (ne_9 (by omega))⟩
          obtain ⟨f, rfl⟩ : ∃ f0, f = f0 + 1 := ⟨f - 1, by omega⟩
          rw [b2, tt_cV, x4_read_40]
          simp only [tt_n, r_1, r_2, r_3]
          rw [if_neg (show ¬ nI q2 = -9 from ne_9 (by omega))]
          split
          · rfl
          · split <;> rfl
