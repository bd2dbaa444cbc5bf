/-! ===== brought ===== -/
def zps (z : zz) (g : Nat → Nat) : Nat → Nat
  | 0 => z_ce z
  | h + 1 => zgo (zps z g h) (g h)
def zch (z : zz) (t d : Nat) (g : Nat → Nat) : Nat → Bool
  | 0 => decide (zfar (z_ce z) t ≤ d)
  | n + 1 => zch z t d g n || decide (zfar (zps z g (n + 1)) t ≤ d)
theorem zps_lt {z : zz} {g : Nat → Nat} (hz : zw z) : ∀ n, (∀ h, h < n → g h < 8) → zps z g n < 120 := by
  intro n
  induction n with
  | zero => exact fun _ => hz.2.2.1.1
  | succ n ih => exact fun h => zgo_lt (ih (fun k hk => h k (by omega))) (h n (by omega))
theorem zps_c {z : zz} {g g1 : Nat → Nat} : ∀ n, (∀ h, h < n → g h = g1 h) → zps z g n = zps z g1 n := by
  intro n
  induction n with
  | zero => exact fun _ => rfl
  | succ n ih =>
    intro h
    show zgo (zps z g n) (g n) = zgo (zps z g1 n) (g1 n)
    rw [ih (fun k hk => h k (by omega)), h n (by omega)]
theorem zch_c {z : zz} {t d : Nat} {g g1 : Nat → Nat} : ∀ n, (∀ h, h < n → g h = g1 h) → zch z t d g n = zch z t d g1 n := by
  intro n
  induction n with
  | zero => exact fun _ => rfl
  | succ n ih =>
    intro h
    show (zch z t d g n || decide (zfar (zps z g (n + 1)) t ≤ d)) = (zch z t d g1 n || decide (zfar (zps z g1 (n + 1)) t ≤ d))
    rw [ih (fun k hk => h k (by omega)), zps_c (n + 1) h]
theorem zch_1 {z : zz} {t d : Nat} {g : Nat → Nat} {j : Nat} (h : zfar (zps z g j) t ≤ d) : ∀ n, j ≤ n → zch z t d g n = true := by
  intro n
  induction n with
  | zero =>
    intro hj
    obtain rfl : j = 0 := by omega
    exact decide_eq_true h
  | succ n ih =>
    intro hj
    show (zch z t d g n || decide (zfar (zps z g (n + 1)) t ≤ d)) = true
    by_cases q : j = n + 1
    · rw [← q, decide_eq_true h, Bool.or_true]
    · rw [ih (by omega), Bool.true_or]
theorem zch_0 {z : zz} {t d : Nat} {g : Nat → Nat} : ∀ n, (∀ j, j ≤ n → ¬ zfar (zps z g j) t ≤ d) → zch z t d g n = false := by
  intro n
  induction n with
  | zero => exact fun h => decide_eq_false (h 0 (Nat.le_refl 0))
  | succ n ih =>
    intro h
    show (zch z t d g n || decide (zfar (zps z g (n + 1)) t ≤ d)) = false
    rw [ih (fun j hj => h j (by omega)), decide_eq_false (h (n + 1) (Nat.le_refl _))]
    rfl
/-- the courses with one change or two -/
def cg (z : zz) (a b : Option Nat) (h : Nat) : Nat := match a with
  | some k => if k / 8 = h then k % 8 else (match b with
    | some m => if m / 8 = h then m % 8 else z_co z h
    | none => z_co z h)
  | none => z_co z h
theorem cg_lt {z : zz} {a b : Option Nat} {h : Nat} (hz : zw z) (hh : h < z_ho z) : cg z a b h < 8 := by
  have := hz.2.2.1.2.2.1 h hh
  unfold cg
  cases a with
  | none => exact this
  | some k =>
    show (if k / 8 = h then k % 8 else _) < 8
    split
    · omega
    · cases b with
      | none => exact this
      | some m =>
        show (if m / 8 = h then m % 8 else z_co z h) < 8
        split
        · omega
        · exact this
theorem x_gone' {ρ : Type} {F c s : Nat} {S : sm_t} (hc : c < 120) (hs : s < 8) (K : Int32 → sm_t → Option ρ) : sm_cI (x1_gone F (nI c) (nI s) S) K = K (nI (zgo c s)) S := by
  rw [x_gone hc hs, tt_cI]
theorem x_cmi {F t d : Nat} {a b : Option Nat} {z : zz} {S : sm_t} (hF : 100000 < F) (hz : zw z) (h : xk z S.1) (ht : t < 120) (hd : d < 6) (ha : ∀ k, a = some k → k < 1000) (hb : ∀ k, b = some k → k < 1000) (hab : a = none → b = none) : x3_comesIn F (nI t) (nI d) (z_m a) (z_m b) S = some (nI (zi (zch z t d (cg z a b) (z_ho z))), S) := by
  have hh := hz.2.2.1.2.1
  unfold x3_comesIn
  rw [tt_n, h.1.1]
  refine lp0 (fun f (p : Int32) i => x3_comesIn_9 F f (nI t) (nI d) (z_m a) (z_m b) p i S) (z_ho z) (fun i p => p = nI (zps z (cg z a b) i) ∧ ∀ j, j < i → ¬ zfar (zps z (cg z a b) j) t ≤ d) (fun o => o = some (nI (zi (zch z t d (cg z a b) (z_ho z))), S)) (a := nI (z_ce z)) (by omega) ⟨rfl, fun j hj => by omega⟩ (fun f p hp => ?_) (fun f i p hi hp => ?_)
  · obtain ⟨rfl, hp⟩ := hp
    change x3_comesIn_9 F (f + 1) (nI t) (nI d) (z_m a) (z_m b) _ (nI (z_ho z)) S = _
    have hl := zps_lt (g := cg z a b) hz (z_ho z) (fun k hk => cg_lt hz hk)
    have hf := zfar_lt hl ht
    rw [x3_comesIn_9, tt_n, h.1.2.1, if_pos (nI_le (by omega) (by omega))]
    unfold x3_comesIn_98
    rw [x_apart (by omega) (by omega), tt_cI]
    by_cases q : zfar (zps z (cg z a b) (z_ho z)) t ≤ d
    · rw [if_neg (nI_nlt q (by omega)), zch_1 q _ (Nat.le_refl _)]
      rfl
    · rw [if_pos (nI_lt (by omega) (by omega)), zch_0 _ (fun j hj => by
        by_cases q1 : j = z_ho z
        · rw [q1]
          exact q
        · exact hp j (by omega))]
      rfl
  · obtain ⟨rfl, hp⟩ := hp
    have hl := zps_lt (g := cg z a b) hz i (fun k hk => cg_lt hz (by omega))
    have hf := zfar_lt hl ht
    have hg := cg_lt (a := a) (b := b) hz hi
    change x3_comesIn_9 F (f + 1) (nI t) (nI d) (z_m a) (z_m b) _ (nI i) S = _ ∨ ∃ p1, x3_comesIn_9 F (f + 1) (nI t) (nI d) (z_m a) (z_m b) _ (nI i) S = x3_comesIn_9 F f (nI t) (nI d) (z_m a) (z_m b) p1 (nI (i + 1)) S ∧ p1 = nI (zgo (zps z (cg z a b) i) (cg z a b i)) ∧ _
    rw [x3_comesIn_9, tt_n, h.1.2.1, if_neg (nI_ge hi (by omega)), x_apart (by omega) (by omega), tt_cI]
    by_cases q : zfar (zps z (cg z a b) i) t ≤ d
    · rw [if_neg (nI_nlt q (by omega)), zch_1 q _ (by omega)]
      exact Or.inl rfl
    · rw [if_pos (nI_lt (by omega) (by omega)), tt_r _ (h.1.2.2.1 i hi) (by omega) (by omega)]
      refine Or.inr ⟨_, ?_, rfl, fun j hj => ?_⟩
      · rw [← x_gone' (F := F) (S := S) hl hg (fun v S => x3_comesIn_9 F f (nI t) (nI d) (z_m a) (z_m b) v (nI (i + 1)) S)]
        cases a with
        | none =>
          rw [if_pos (show z_m none < 0 by decide), hab rfl]
          unfold x3_comesIn_61
          rw [if_pos (show z_m none < 0 by decide), nI_1]
          rfl
        | some k =>
          have hk := ha k rfl
          have e8 : z_m (some k) / 8 = nI (k / 8) := pk_div (d := 8) (by omega) (by omega) (by omega)
          have r8 : sm_ir (z_m (some k)) 8 = nI (k % 8) := pk_rem (d := 8) (by omega) (by omega) (by omega)
          rw [if_neg (show ¬ z_m (some k) < 0 from nI_pos (n := k) (by omega)), e8, r8, tt_n, nI_1]
          show _ = sm_cI (x1_gone F _ (nI (if k / 8 = i then k % 8 else _)) S) _
          by_cases qk : k / 8 = i
          · rw [if_pos (by rw [qk]), if_pos qk]
          · rw [if_neg (fun p => qk ((nI_eq (by omega) (by omega)).mp p)), if_neg qk]
            unfold x3_comesIn_61
            cases b with
            | none =>
              rw [if_pos (show z_m none < 0 by decide), nI_1]
            | some m =>
              have hm := hb m rfl
              have e9 : z_m (some m) / 8 = nI (m / 8) := pk_div (d := 8) (by omega) (by omega) (by omega)
              have r9 : sm_ir (z_m (some m)) 8 = nI (m % 8) := pk_rem (d := 8) (by omega) (by omega) (by omega)
              rw [if_neg (show ¬ z_m (some m) < 0 from nI_pos (n := m) (by omega)), e9, r9, tt_n, nI_1]
              show _ = sm_cI (x1_gone F _ (nI (if m / 8 = i then m % 8 else _)) S) _
              by_cases qm : m / 8 = i
              · rw [if_pos (by rw [qm]), if_pos qm]
              · rw [if_neg (fun p => qm ((nI_eq (by omega) (by omega)).mp p)), if_neg qm]
      · by_cases q1 : j = i
        · rw [q1]
          exact q
        · exact hp j (by omega)
theorem rz_zi {b : Bool} {S : sm_t} : sm_rz (nI (zi b)) S = some (nI (zi b), S) := by
  cases b <;> rfl
theorem m_cmi {F t d : Nat} {g : Nat → Nat} {z : zz} {T : sm_t} (hF : 100000 < F) (hz : zw z) (h : mk z T.1) (ht : t < 120) (hd : d < 6) (hg : ∀ k, k < z_ho z → g k < 8) (hT : ∀ k, k < z_ho z → T.1 69 k = nI (g k)) : x8_comesIn F (nI t) (nI d) T = some (nI (zi (zch z t d g (z_ho z))), T) := by
  have hh := hz.2.2.1.2.1
  have hc := hz.2.2.1.1
  have hf0 := zfar_lt hc ht
  have key : x8_comesIn_26 F F (nI t) (nI d) (nI (z_ce z)) (nI (zi (zch z t d g 0))) 0 T = some (nI (zi (zch z t d g (z_ho z))), T) := by
    refine lp0 (fun f (p : Int32 × Int32) i => x8_comesIn_26 F f (nI t) (nI d) p.1 p.2 i T) (z_ho z) (fun i p => p = (nI (zps z g i), nI (zi (zch z t d g i)))) (fun o => o = some (nI (zi (zch z t d g (z_ho z))), T)) (a := (nI (z_ce z), nI (zi (zch z t d g 0)))) (by omega) rfl (fun f p hp => ?_) (fun f i p hi hp => Or.inr ⟨_, ?_, rfl⟩)
    · subst hp
      change x8_comesIn_26 F (f + 1) (nI t) (nI d) _ _ (nI (z_ho z)) T = _
      rw [x8_comesIn_26, k_hours h, tt_cI, if_pos (nI_le (by omega) (by omega)), rz_zi]
    · subst hp
      change x8_comesIn_26 F (f + 1) (nI t) (nI d) (nI (zps z g i)) (nI (zi (zch z t d g i))) (nI i) T = x8_comesIn_26 F f (nI t) (nI d) (nI (zgo (zps z g i) (g i))) (nI (zi (zch z t d g i || decide (zfar (zgo (zps z g i) (g i)) t ≤ d)))) (nI (i + 1)) T
      have hl := zps_lt (g := g) hz i (fun k hk => hg k (by omega))
      have hl2 := zgo_lt hl (hg i hi)
      have hf := zfar_lt hl2 ht
      rw [x8_comesIn_26, k_hours h, tt_cI, if_neg (nI_ge hi (by omega)), tt_r _ (hT i hi) (by omega) (by omega), m_goes hl (hg i hi), tt_cI, nI_1]
      cases zch z t d g i with
      | true =>
        rw [if_neg (zi_1 rfl), Bool.true_or]
        rfl
      | false =>
        rw [if_pos (zi_0 rfl), m_far (by omega) (by omega), tt_cI, Bool.false_or]
        by_cases q : zfar (zgo (zps z g i) (g i)) t ≤ d
        · rw [if_neg (nI_nlt q (by omega)), decide_eq_true q]
          rfl
        · rw [if_pos (nI_lt (by omega) (by omega)), decide_eq_false q]
          rfl
  unfold x8_comesIn
  rw [tr_0 _ (by omega) (by omega), h.1.1, m_far (by omega) (by omega), tt_cI, ← key]
  by_cases q : zfar (z_ce z) t ≤ d
  · rw [if_neg (nI_nlt q (by omega)), show zch z t d g 0 = true from decide_eq_true q]
    rfl
  · rw [if_pos (nI_lt (by omega) (by omega)), show zch z t d g 0 = false from decide_eq_false q]
    rfl
def p1 (z : zz) (t d k : Nat) : Bool := zch z t d (cg z (some k) none) (z_ho z)
def p2 (z : zz) (t d k m : Nat) : Bool := zch z t d (cg z (some k) (some m)) (z_ho z)
def tA (k : Nat) : Nat := k / 8 * 10 + k % 8
theorem x_told {F k : Nat} {S : sm_t} (hk : k < 1000) : x3_toldAs F (nI k) S = some (nI (tA k), S) := by
  unfold x3_toldAs
  rw [show nI k / 8 = nI (k / 8) from pk_div (d := 8) (by omega) (by omega) (by omega), show sm_ir (nI k) 8 = nI (k % 8) from pk_rem (d := 8) (by omega) (by omega) (by omega), show nI (k / 8) * 10 = nI (k / 8 * 10) from pk_mul _ 10, nI_add]
  rfl
theorem x_first {F t d : Nat} {z : zz} {S : sm_t} (hF : 100000 < F) (hz : zw z) (h : xk z S.1) (ht : t < 120) (hd : d < 6) : (∃ k, k < 8 * z_ho z ∧ p1 z t d k = true ∧ (∀ j, j < k → p1 z t d j = false) ∧ x3_firstChange F (nI t) (nI d) S = some (nI (tA k), S)) ∨ ((∀ j, j < 8 * z_ho z → p1 z t d j = false) ∧ x3_firstChange F (nI t) (nI d) S = some (-9, S)) := by
  have hh := hz.2.2.1.2.1
  unfold x3_firstChange
  refine lp0 (fun f (_ : Unit) i => x3_firstChange_2 F f (nI t) (nI d) i S) (8 * z_ho z) (fun i _ => ∀ j, j < i → p1 z t d j = false) (fun o => (∃ k, k < 8 * z_ho z ∧ p1 z t d k = true ∧ (∀ j, j < k → p1 z t d j = false) ∧ o = some (nI (tA k), S)) ∨ ((∀ j, j < 8 * z_ho z → p1 z t d j = false) ∧ o = some (-9, S))) (a := ()) (by omega) (fun j hj => by omega) (fun f _ ha => Or.inr ⟨ha, ?_⟩) (fun f i _ hi ha => ?_)
  · change x3_firstChange_2 F (f + 1) (nI t) (nI d) (nI (8 * z_ho z)) S = _
    rw [x3_firstChange_2, tt_n, h.1.2.1, show nI (z_ho z) * 8 = nI (z_ho z * 8) from pk_mul _ 8, if_pos (nI_le (by omega) (by omega))]
  · have e : x3_comesIn F (nI t) (nI d) (nI i) (-9) S = some (nI (zi (p1 z t d i)), S) := x_cmi (a := some i) (b := none) hF hz h ht hd (fun k hk => by cases hk; omega) (fun k hk => by cases hk) (fun q => rfl)
    have e0 : x3_firstChange_2 F (f + 1) (nI t) (nI d) (nI i) S = if nI (zi (p1 z t d i)) = 0 then x3_firstChange_2 F f (nI t) (nI d) (nI (i + 1)) S else some (nI (tA i), S) := by
      rw [x3_firstChange_2, tt_n, h.1.2.1, show nI (z_ho z) * 8 = nI (z_ho z * 8) from pk_mul _ 8, if_neg (nI_ge (by omega) (by omega)), e, tt_cI, x_told (by omega), tt_cI, nI_1]
    cases q : p1 z t d i with
    | true =>
      refine Or.inl (Or.inl ⟨i, hi, q, ha, ?_⟩)
      rw [e0, q, if_neg (zi_1 rfl)]
    | false =>
      refine Or.inr ⟨(), ?_, fun j hj => ?_⟩
      · rw [e0, q, if_pos (zi_0 rfl)]
      · by_cases q1 : j = i
        · rw [q1, q]
        · exact ha j (by omega)
theorem x_second {F t d : Nat} {z : zz} {S : sm_t} (hF : 100000 < F) (hz : zw z) (h : xk z S.1) (ht : t < 120) (hd : d < 6) : (∃ k m, k < 8 * z_ho z ∧ m < 8 * z_ho z ∧ k / 8 < m / 8 ∧ p2 z t d k m = true ∧ (∀ i j, i < 8 * z_ho z → j < 8 * z_ho z → i / 8 < j / 8 → (i < k ∨ i = k ∧ j < m) → p2 z t d i j = false) ∧ x3_firstTwoChanges F (nI t) (nI d) S = some (nI (tA k + 100 + 100 * tA m), S)) ∨ ((∀ i j, i < 8 * z_ho z → j < 8 * z_ho z → i / 8 < j / 8 → p2 z t d i j = false) ∧ x3_firstTwoChanges F (nI t) (nI d) S = some (-9, S)) := by
  have hh := hz.2.2.1.2.1
  unfold x3_firstTwoChanges
  rw [tt_n, tt_n, h.1.2.1, show nI (z_ho z) * 8 = nI (z_ho z * 8) from pk_mul _ 8, Nat.mul_comm (z_ho z) 8]
  refine lp0 (fun f (_ : Unit) i => x3_firstTwoChanges_11 F f (nI t) (nI d) (nI (8 * z_ho z)) i S) (8 * z_ho z) (fun k _ => ∀ i j, i < k → j < 8 * z_ho z → i / 8 < j / 8 → p2 z t d i j = false) (fun o => (∃ k m, k < 8 * z_ho z ∧ m < 8 * z_ho z ∧ k / 8 < m / 8 ∧ p2 z t d k m = true ∧ (∀ i j, i < 8 * z_ho z → j < 8 * z_ho z → i / 8 < j / 8 → (i < k ∨ i = k ∧ j < m) → p2 z t d i j = false) ∧ o = some (nI (tA k + 100 + 100 * tA m), S)) ∨ ((∀ i j, i < 8 * z_ho z → j < 8 * z_ho z → i / 8 < j / 8 → p2 z t d i j = false) ∧ o = some (-9, S))) (a := ()) (by omega) (fun i j hi => by omega) (fun f _ ha => Or.inr ⟨ha, ?_⟩) (fun f k _ hk ha => ?_)
  · change x3_firstTwoChanges_11 F (f + 1) (nI t) (nI d) (nI (8 * z_ho z)) (nI (8 * z_ho z)) S = _
    rw [x3_firstTwoChanges_11, if_pos (nI_le (by omega) (by omega))]
  · have e0 : x3_firstTwoChanges_11 F (f + 1) (nI t) (nI d) (nI (8 * z_ho z)) (nI k) S = x3_firstTwoChanges_33 F (x3_firstTwoChanges_11 F f) F (nI t) (nI d) (nI (8 * z_ho z)) (nI k) (nI ((k / 8 + 1) * 8)) S := by
      rw [x3_firstTwoChanges_11, if_neg (nI_ge hk (by omega)), tt_n, show nI k / 8 = nI (k / 8) from pk_div (d := 8) (by omega) (by omega) (by omega), nI_1, show nI (k / 8 + 1) * 8 = nI ((k / 8 + 1) * 8) from pk_mul _ 8]
    change ((∃ k m, _ ∧ _ ∧ _ ∧ _ ∧ _ ∧ x3_firstTwoChanges_11 F (f + 1) (nI t) (nI d) (nI (8 * z_ho z)) (nI _) S = _) ∨ _ ∧ x3_firstTwoChanges_11 F (f + 1) (nI t) (nI d) (nI (8 * z_ho z)) (nI _) S = _) ∨ ∃ _ : Unit, x3_firstTwoChanges_11 F (f + 1) (nI t) (nI d) (nI (8 * z_ho z)) (nI k) S = x3_firstTwoChanges_11 F f (nI t) (nI d) (nI (8 * z_ho z)) (nI (k + 1)) S ∧ _
    rw [e0]
    have key : (∃ m, m < 8 * z_ho z ∧ k / 8 < m / 8 ∧ p2 z t d k m = true ∧ (∀ j, j < m → k / 8 < j / 8 → p2 z t d k j = false) ∧ x3_firstTwoChanges_33 F (x3_firstTwoChanges_11 F f) F (nI t) (nI d) (nI (8 * z_ho z)) (nI k) (nI ((k / 8 + 1) * 8)) S = some (nI (tA k + 100 + 100 * tA m), S)) ∨ ((∀ j, j < 8 * z_ho z → k / 8 < j / 8 → p2 z t d k j = false) ∧ x3_firstTwoChanges_33 F (x3_firstTwoChanges_11 F f) F (nI t) (nI d) (nI (8 * z_ho z)) (nI k) (nI ((k / 8 + 1) * 8)) S = x3_firstTwoChanges_11 F f (nI t) (nI d) (nI (8 * z_ho z)) (nI (k + 1)) S) := by
      refine lpi (fun f1 (_ : Unit) i => x3_firstTwoChanges_33 F (x3_firstTwoChanges_11 F f) f1 (nI t) (nI d) (nI (8 * z_ho z)) (nI k) i S) (8 * z_ho z) ((k / 8 + 1) * 8) (fun i _ => (k / 8 + 1) * 8 ≤ i ∧ ∀ j, j < i → k / 8 < j / 8 → p2 z t d k j = false) (fun o => (∃ m, m < 8 * z_ho z ∧ k / 8 < m / 8 ∧ p2 z t d k m = true ∧ (∀ j, j < m → k / 8 < j / 8 → p2 z t d k j = false) ∧ o = some (nI (tA k + 100 + 100 * tA m), S)) ∨ ((∀ j, j < 8 * z_ho z → k / 8 < j / 8 → p2 z t d k j = false) ∧ o = x3_firstTwoChanges_11 F f (nI t) (nI d) (nI (8 * z_ho z)) (nI (k + 1)) S)) (a := ()) (by omega) (by omega) ⟨Nat.le_refl _, fun j hj hj2 => by omega⟩ (fun f1 _ hb => Or.inr ⟨hb.2, ?_⟩) (fun f1 i _ hi hb => ?_)
      · change x3_firstTwoChanges_33 F (x3_firstTwoChanges_11 F f) (f1 + 1) (nI t) (nI d) (nI (8 * z_ho z)) (nI k) (nI (8 * z_ho z)) S = _
        rw [x3_firstTwoChanges_33, if_pos (nI_le (by omega) (by omega)), nI_1]
      · have e : x3_comesIn F (nI t) (nI d) (nI k) (nI i) S = some (nI (zi (p2 z t d k i)), S) := x_cmi (a := some k) (b := some i) hF hz h ht hd (fun q hq => by cases hq; omega) (fun q hq => by cases hq; omega) (fun q => by cases q)
        have e1 : x3_firstTwoChanges_33 F (x3_firstTwoChanges_11 F f) (f1 + 1) (nI t) (nI d) (nI (8 * z_ho z)) (nI k) (nI i) S = if nI (zi (p2 z t d k i)) = 0 then x3_firstTwoChanges_33 F (x3_firstTwoChanges_11 F f) f1 (nI t) (nI d) (nI (8 * z_ho z)) (nI k) (nI (i + 1)) S else some (nI (tA k + 100 + 100 * tA i), S) := by
          rw [x3_firstTwoChanges_33, if_neg (nI_ge hi (by omega)), e, tt_cI, nI_1]
          unfold x3_firstTwoChanges_52
          rw [x_told (by omega), tt_cI, x_told (by omega), tt_cI, tk_b100, tk_m100, nI_add]
        cases q : p2 z t d k i with
        | true =>
          refine Or.inl (Or.inl ⟨i, hi, by omega, q, hb.2, ?_⟩)
          rw [e1, q, if_neg (zi_1 rfl)]
        | false =>
          refine Or.inr ⟨(), ?_, by omega, fun j hj hj2 => ?_⟩
          · rw [e1, q, if_pos (zi_0 rfl)]
          · by_cases q1 : j = i
            · rw [q1, q]
            · exact hb.2 j (by omega) hj2
    rcases key with ⟨m, h1, h2, h3, h4, h5⟩ | ⟨h4, h5⟩
    · refine Or.inl (Or.inl ⟨k, m, hk, h1, h2, h3, fun i j hi hj hij hq => ?_, h5⟩)
      rcases hq with hq | ⟨rfl, hq⟩
      · exact ha i j hq hj hij
      · exact h4 j hq hij
    · refine Or.inr ⟨(), h5, fun i j hi hj hij => ?_⟩
      by_cases q1 : i = k
      · rw [q1] at hij ⊢
        exact h4 j hj hij
      · exact ha i j (by omega) hj hij
