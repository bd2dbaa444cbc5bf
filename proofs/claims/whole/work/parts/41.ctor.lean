def c6_init (a : Nat) (T : sc_t) : Option sc_t :=
  sm_n (sc_wI T a 0 0) fun T =>
  sm_n (sc_wI T a 1 0) fun T =>
  sm_n (sc_wI T a 2 0) fun T =>
  sm_n (sc_wI T a 3 0) fun T =>
  sm_n (sc_wI T a 4 0) fun T =>
  some T
theorem s6_init {s : sm_Sh} (a : Nat) (hs : s[a]? = some (.inr 5)) (h3 : 3 ≤ a) (T : sc_t) (hT : sc_wf s.length T) : sm_P (sc_j s) k6_init [.ref a] (s, T) (c6_init a T) := by
  show sm_S (sc_j s) k6_init 0 0 0 [some (.ref a)] [] (s, T) (c6_init a T)
  unfold c6_init
  refine sd_aload_n (pc := 0) d6_init_0 rfl ?_
  refine sd_obj (pc := 1) 3 mb6_3 mo.1 mo.2 (Nat.le_of_ble_eq_true rfl) (Nat.le_of_ble_eq_true rfl) d6_init_1 ?_
  refine sd_aload_n (pc := 4) d6_init_4 rfl ?_
  refine sd_iconst (pc := 5) 0 d6_init_5 (by decide) ?_
  refine sc_putI (pc := 6) (ci := 5) (i := 0) hs h3 (Or.inl rfl) fl6_11 (Or.inl rfl) hT d6_init_6 (fun T hT => ?_)
  refine sd_aload_n (pc := 9) d6_init_9 rfl ?_
  refine sd_iconst (pc := 10) 0 d6_init_10 (by decide) ?_
  refine sc_putI (pc := 11) (ci := 5) (i := 1) hs h3 (Or.inl rfl) fl6_15 (Or.inl rfl) hT d6_init_11 (fun T hT => ?_)
  refine sd_aload_n (pc := 14) d6_init_14 rfl ?_
  refine sd_iconst (pc := 15) 0 d6_init_15 (by decide) ?_
  refine sc_putI (pc := 16) (ci := 5) (i := 2) hs h3 (Or.inl rfl) fl6_18 (Or.inl rfl) hT d6_init_16 (fun T hT => ?_)
  refine sd_aload_n (pc := 19) d6_init_19 rfl ?_
  refine sd_iconst (pc := 20) 0 d6_init_20 (by decide) ?_
  refine sc_putI (pc := 21) (ci := 5) (i := 3) hs h3 (Or.inl rfl) fl6_21 (Or.inl rfl) hT d6_init_21 (fun T hT => ?_)
  refine sd_aload_n (pc := 24) d6_init_24 rfl ?_
  refine sd_iconst (pc := 25) 0 d6_init_25 (by decide) ?_
  refine sc_putI (pc := 26) (ci := 5) (i := 4) hs h3 (Or.inr ⟨rfl, Or.inl rfl⟩) fl6_24 (Or.inl rfl) hT d6_init_26 (fun T hT => ?_)
  exact sc_vret (pc := 29) d6_init_29 (Nat.zero_le _) (Nat.zero_le _)
theorem w6_init {n : Nat} (a : Nat) (T : sc_t) (hT : sc_wf n T) : sc_ow n (c6_init a T) := by
  unfold c6_init
  refine ow_I hT (fun T hT => ?_)
  refine ow_I hT (fun T hT => ?_)
  refine ow_I hT (fun T hT => ?_)
  refine ow_I hT (fun T hT => ?_)
  refine ow_I hT (fun T hT => ?_)
  exact ow_r hT
def cA_fill_5 (a n : Nat) (v : Int32) : Nat → Int32 → sc_t → Option sc_t
  | 0, _, _ => none
  | f + 1, i, T => if Int32.ofNat n ≤ i then some T else if sm_ix i n = true then sm_n (sc_wI T a i.toNatClampNeg v) fun T => cA_fill_5 a n v f (i + 1) T else none
def cA_fill (a n : Nat) (v : Int32) (T : sc_t) : Option sc_t := cA_fill_5 a n v 50 0 T
theorem wA_fill_5 {m : Nat} (a n : Nat) (v : Int32) : ∀ (f : Nat) (i : Int32) (T : sc_t), sc_wf m T → sc_ow m (cA_fill_5 a n v f i T)
  | 0, _, _, _ => fun _ h => by cases h
  | f + 1, i, T, hT => fun T2 h2 => by
    rw [cA_fill_5] at h2
    split at h2
    · exact ow_r hT T2 h2
    · split at h2
      · exact wA_fill_5 a n v f (i + 1) (sc_wI T a i.toNatClampNeg v) hT T2 h2
      · cases h2
theorem wA_fill {m : Nat} (a n : Nat) (v : Int32) (T : sc_t) (hT : sc_wf m T) : sc_ow m (cA_fill a n v T) := wA_fill_5 a n v 50 0 T hT
theorem sc_alen {ρ : Type} {j : ρ → Option Value × sm_M} {k : sm_K} {cs sl pc a n : Nat} {lf : List (Option Value)} {st : List Value} {s : sm_Sh} {T : sc_t} {o : Option ρ} (hs : s[a]? = some (.inl (.int, n))) (h3 : 3 ≤ a) (hd : decode k.2.1 pc = .ok (.arraylength, 1)) (h : sm_S j k cs sl (pc + 1) lf (.int (Int32.ofNat n) :: st) (s, T) o) : sm_S j k cs sl pc lf (.ref a :: st) (s, T) o := by
  intro r hr nn g0 g p l e R s3 m args below meth c Q hC hx hn hQ H locs ls hM hS hL
  have hw : (sm_w g (s, T))[a - 3]? = some (g.1 a, .inl (g.2.2.2.2.2 .int, n, .inl (T.1 a))) := sm_w_at (M := (s, T)) hs h3
  exact va_alen hC.1 hC.2.1 hC.2.2.2.2.2.2.2.2.2.1.1 hM.2.1 (a - 3) 0 hw rfl (v := Int32.ofNat n) rfl hd (h r hr nn g0 g p l e R s3 m args below meth c Q hC hx hn hQ H locs ls hM hS hL)
theorem sA_fill_5 {s : sm_Sh} (a n : Nat) (v : Int32) (hs : s[a]? = some (.inl (.int, n))) (h3 : 3 ≤ a) : ∀ (f : Nat) (i : Int32) (T : sc_t), sc_wf s.length T → sm_S (sc_j s) kA_fillI 0 0 5 [some (.ref a), some (.int v), some (.int i), some (.int (Int32.ofNat n))] [] (s, T) (cA_fill_5 a n v f i T) := by
  intro f
  induction f with
  | zero => intro i T hT; exact sd_none
  | succ f ih =>
    intro i T hT
    rw [cA_fill_5]
    refine sd_iload_n (pc := 5) dA_fillI_5 rfl ?_
    refine sd_iload_n (pc := 6) dA_fillI_6 rfl ?_
    refine sd_ic_ge (pc := 7) 20 dA_fillI_7 (by decide) (fun _ => ?_) (fun _ => ?_)
    · exact sc_vret (pc := 20) dA_fillI_20 (Nat.zero_le _) (Nat.zero_le _)
    · refine sd_ite (fun hi => ?_) (fun _ => sd_none)
      refine sd_aload_n (pc := 10) dA_fillI_10 rfl ?_
      refine sd_iload_n (pc := 11) dA_fillI_11 rfl ?_
      refine sd_iload_n (pc := 12) dA_fillI_12 rfl ?_
      refine sc_iast (pc := 13) hs h3 hi hT dA_fillI_13 (fun T hT => ?_)
      refine sd_iinc (lf2 := [some (.ref a), some (.int v), some (.int (i + 1)), some (.int (Int32.ofNat n))]) (pc := 14) dA_fillI_14 (Nat.le_of_ble_eq_true rfl) rfl ci_1 rfl ?_
      refine sd_goto (pc := 17) 5 dA_fillI_17 (by decide) ?_
      exact ih (i + 1) T hT
theorem sA_fill {s : sm_Sh} (a n : Nat) (v : Int32) (hs : s[a]? = some (.inl (.int, n))) (h3 : 3 ≤ a) (T : sc_t) (hT : sc_wf s.length T) : sm_P (sc_j s) kA_fillI [.ref a, .int v] (s, T) (cA_fill a n v T) := by
  show sm_S (sc_j s) kA_fillI 0 0 0 [some (.ref a), some (.int v), none, none] [] (s, T) (cA_fill a n v T)
  unfold cA_fill
  refine sd_iconst (pc := 0) 0 dA_fillI_0 ci_0 ?_
  refine sd_istore_n (lf2 := [some (.ref a), some (.int v), some (.int 0), none]) (pc := 1) dA_fillI_1 (Nat.le_of_ble_eq_true rfl) rfl ?_
  refine sd_aload_n (pc := 2) dA_fillI_2 rfl ?_
  refine sc_alen (pc := 3) hs h3 dA_fillI_3 ?_
  refine sd_istore_n (lf2 := [some (.ref a), some (.int v), some (.int 0), some (.int (Int32.ofNat n))]) (pc := 4) dA_fillI_4 (Nat.le_of_ble_eq_true rfl) rfl ?_
  exact sA_fill_5 a n v hs h3 50 0 T hT

def c3_init (T : sc_t) : Option sc_t :=
  sm_n (sc_wI T 19 0 0) fun T =>
  sm_n (sc_wI T 19 1 0) fun T =>
  sm_n (sc_z T 20) fun T =>
  sm_n (sc_wR T 19 2 (some 20)) fun T =>
  sm_n (sc_z T 21) fun T =>
  sm_n (sc_wR T 19 3 (some 21)) fun T =>
  if T.2.2 19 3 = some 21 then (
  sm_n (sc_wI T 21 (0 : Int32).toNatClampNeg 1) fun T =>
  some T) else none
set_option maxHeartbeats 4000000 in
set_option maxRecDepth 20000 in
theorem w3_init (T : sc_t) (hT : sc_wf 20 T) : sc_ow 22 (c3_init T) := by
  unfold c3_init
  refine ow_I hT (fun T (hT : sc_wf 20 T) => ?_)
  refine ow_I hT (fun T (hT : sc_wf 20 T) => ?_)
  refine ow_z hT (fun T (hT : sc_wf 21 T) => ?_)
  refine ow_R (by decide) hT (fun T (hT : sc_wf 21 T) => ?_)
  refine ow_z hT (fun T (hT : sc_wf 22 T) => ?_)
  refine ow_R (by decide) hT (fun T (hT : sc_wf 22 T) => ?_)
  refine ow_if ?_
  refine ow_I hT (fun T (hT : sc_wf 22 T) => ?_)
  exact ow_r hT
set_option maxHeartbeats 4000000 in
set_option maxRecDepth 20000 in
theorem s3_init (n : Nat) (T : sc_t) (hT : sc_wf 20 T) : sm_P (sc_j (sc_sh n 22)) k3_init [.ref 19] (sc_sh n 20, T) (c3_init T) := by
  show sm_S (sc_j (sc_sh n 22)) k3_init 0 0 0 [some (.ref 19)] [] (sc_sh n 20, T) (c3_init T)
  unfold c3_init
  refine sd_aload_n (pc := 0) d3_init_0 rfl ?_
  refine sd_obj (pc := 1) 3 mb3_3 mo.1 mo.2 (Nat.le_of_ble_eq_true rfl) (Nat.le_of_ble_eq_true rfl) d3_init_1 ?_
  refine sd_aload_n (pc := 4) d3_init_4 rfl ?_
  refine sd_iconst (pc := 5) 0 d3_init_5 (by decide) ?_
  refine sc_putI (pc := 6) (a := 19) (ci := 2) (i := 0) rfl (by decide) (Or.inl rfl) fl3_9 (Or.inl rfl) hT d3_init_6 (fun T (hT : sc_wf 20 T) => ?_)
  refine sd_aload_n (pc := 9) d3_init_9 rfl ?_
  refine sd_iconst (pc := 10) 0 d3_init_10 (by decide) ?_
  refine sc_putI (pc := 11) (a := 19) (ci := 2) (i := 1) rfl (by decide) (Or.inl rfl) fl3_15 (Or.inl rfl) hT d3_init_11 (fun T (hT : sc_wf 20 T) => ?_)
  refine sd_aload_n (pc := 14) d3_init_14 rfl ?_
  refine sd_bipush (pc := 15) 6 d3_init_15 (by decide) ?_
  refine sc_newa (atype := .int) (ty := .int) (pc := 17) 0 6 rfl (fun _ => rfl) (Or.inl rfl) ac_int (by decide) (by decide) (by decide) (Nat.le_of_ble_eq_true rfl) hT rfl (by decide) (Nat.le_of_ble_eq_true rfl) (Nat.le_of_ble_eq_true rfl) d3_init_17 (fun T (hT : sc_wf 21 T) => ?_)
  refine sd_cast (M' := (sc_sh n 21, T)) (st' := [.ref 20, .ref 19]) (cs' := 1) (sl' := 6) rfl rfl rfl rfl ?_
  refine sc_putR (pc := 19) (a := 19) (ci := 2) (i := 2) (b := 20) rfl (by decide) rfl (fun _ => ⟨rfl, rfl⟩) (Nat.le_of_ble_eq_true rfl) fl3_18 (Or.inr ⟨rfl, rfl, rfl⟩) hT d3_init_19 (fun T (hT : sc_wf 21 T) => ?_)
  refine sd_aload_n (pc := 22) d3_init_22 rfl ?_
  refine sd_bipush (pc := 23) 7 d3_init_23 (by decide) ?_
  refine sc_newa (atype := .int) (ty := .int) (pc := 25) 0 7 rfl (fun _ => rfl) (Or.inl rfl) ac_int (by decide) (by decide) (by decide) (Nat.le_of_ble_eq_true rfl) hT rfl (by decide) (Nat.le_of_ble_eq_true rfl) (Nat.le_of_ble_eq_true rfl) d3_init_25 (fun T (hT : sc_wf 22 T) => ?_)
  refine sd_cast (M' := (sc_sh n 22, T)) (st' := [.ref 21, .ref 19]) (cs' := 2) (sl' := 13) rfl rfl rfl rfl ?_
  refine sc_putR (pc := 27) (a := 19) (ci := 2) (i := 3) (b := 21) rfl (by decide) rfl (fun _ => ⟨rfl, rfl⟩) (Nat.le_of_ble_eq_true rfl) fl3_22 (Or.inr ⟨rfl, rfl, rfl⟩) hT d3_init_27 (fun T (hT : sc_wf 22 T) => ?_)
  refine sd_aload_n (pc := 30) d3_init_30 rfl ?_
  refine sc_getR (pc := 31) (a := 19) (ci := 2) (i := 3) 21 rfl (by decide) rfl fl3_22 d3_init_31 ?_
  refine sd_iconst (pc := 34) 0 d3_init_34 (by decide) ?_
  refine sd_iconst (pc := 35) 1 d3_init_35 (by decide) ?_
  refine sc_iast (pc := 36) (a := 21) (n := 7) rfl (by decide) (by decide) hT d3_init_36 (fun T (hT : sc_wf 22 T) => ?_)
  exact sc_vret (pc := 37) d3_init_37 (Nat.le_of_ble_eq_true rfl) (Nat.le_of_ble_eq_true rfl)
def c0_init (T : sc_t) : Option sc_t :=
  sm_n (sc_z T 23) fun T =>
  sm_n (sc_wR T 22 0 (some 23)) fun T =>
  sm_n (sc_wI T 22 1 0) fun T =>
  if T.2.2 22 0 = some 23 then (
  sm_n (sc_z T 24) fun T =>
  (c6_init 24 T).bind fun T =>
  sm_n (sc_wR T 23 (0 : Int32).toNatClampNeg (some 24)) fun T =>
  if T.2.2 22 0 = some 23 then (
  sm_n (sc_z T 25) fun T =>
  (c6_init 25 T).bind fun T =>
  sm_n (sc_wR T 23 (1 : Int32).toNatClampNeg (some 25)) fun T =>
  if T.2.2 22 0 = some 23 then (
  sm_n (sc_z T 26) fun T =>
  (c6_init 26 T).bind fun T =>
  sm_n (sc_wR T 23 (2 : Int32).toNatClampNeg (some 26)) fun T =>
  if T.2.2 22 0 = some 23 then (
  sm_n (sc_z T 27) fun T =>
  (c6_init 27 T).bind fun T =>
  sm_n (sc_wR T 23 (3 : Int32).toNatClampNeg (some 27)) fun T =>
  if T.2.2 22 0 = some 23 then (
  sm_n (sc_z T 28) fun T =>
  (c6_init 28 T).bind fun T =>
  sm_n (sc_wR T 23 (4 : Int32).toNatClampNeg (some 28)) fun T =>
  if T.2.2 22 0 = some 23 then (
  sm_n (sc_z T 29) fun T =>
  (c6_init 29 T).bind fun T =>
  sm_n (sc_wR T 23 (5 : Int32).toNatClampNeg (some 29)) fun T =>
  if T.2.2 22 0 = some 23 then (
  sm_n (sc_z T 30) fun T =>
  (c6_init 30 T).bind fun T =>
  sm_n (sc_wR T 23 (6 : Int32).toNatClampNeg (some 30)) fun T =>
  if T.2.2 22 0 = some 23 then (
  sm_n (sc_z T 31) fun T =>
  (c6_init 31 T).bind fun T =>
  sm_n (sc_wR T 23 (7 : Int32).toNatClampNeg (some 31)) fun T =>
  if T.2.2 22 0 = some 23 then (
  sm_n (sc_z T 32) fun T =>
  (c6_init 32 T).bind fun T =>
  sm_n (sc_wR T 23 (8 : Int32).toNatClampNeg (some 32)) fun T =>
  if T.2.2 22 0 = some 23 then (
  sm_n (sc_z T 33) fun T =>
  (c6_init 33 T).bind fun T =>
  sm_n (sc_wR T 23 (9 : Int32).toNatClampNeg (some 33)) fun T =>
  if T.2.2 22 0 = some 23 then (
  sm_n (sc_z T 34) fun T =>
  (c6_init 34 T).bind fun T =>
  sm_n (sc_wR T 23 (10 : Int32).toNatClampNeg (some 34)) fun T =>
  if T.2.2 22 0 = some 23 then (
  sm_n (sc_z T 35) fun T =>
  (c6_init 35 T).bind fun T =>
  sm_n (sc_wR T 23 (11 : Int32).toNatClampNeg (some 35)) fun T =>
  some T) else none) else none) else none) else none) else none) else none) else none) else none) else none) else none) else none) else none
set_option maxHeartbeats 4000000 in
set_option maxRecDepth 20000 in
theorem w0_init (T : sc_t) (hT : sc_wf 23 T) : sc_ow 36 (c0_init T) := by
  unfold c0_init
  refine ow_z hT (fun T (hT : sc_wf 24 T) => ?_)
  refine ow_R (by decide) hT (fun T (hT : sc_wf 24 T) => ?_)
  refine ow_I hT (fun T (hT : sc_wf 24 T) => ?_)
  refine ow_if ?_
  refine ow_z hT (fun T (hT : sc_wf 25 T) => ?_)
  refine ow_c (w6_init 24 T hT) (fun T (hT : sc_wf 25 T) => ?_)
  refine ow_R (by decide) hT (fun T (hT : sc_wf 25 T) => ?_)
  refine ow_if ?_
  refine ow_z hT (fun T (hT : sc_wf 26 T) => ?_)
  refine ow_c (w6_init 25 T hT) (fun T (hT : sc_wf 26 T) => ?_)
  refine ow_R (by decide) hT (fun T (hT : sc_wf 26 T) => ?_)
  refine ow_if ?_
  refine ow_z hT (fun T (hT : sc_wf 27 T) => ?_)
  refine ow_c (w6_init 26 T hT) (fun T (hT : sc_wf 27 T) => ?_)
  refine ow_R (by decide) hT (fun T (hT : sc_wf 27 T) => ?_)
  refine ow_if ?_
  refine ow_z hT (fun T (hT : sc_wf 28 T) => ?_)
  refine ow_c (w6_init 27 T hT) (fun T (hT : sc_wf 28 T) => ?_)
  refine ow_R (by decide) hT (fun T (hT : sc_wf 28 T) => ?_)
  refine ow_if ?_
  refine ow_z hT (fun T (hT : sc_wf 29 T) => ?_)
  refine ow_c (w6_init 28 T hT) (fun T (hT : sc_wf 29 T) => ?_)
  refine ow_R (by decide) hT (fun T (hT : sc_wf 29 T) => ?_)
  refine ow_if ?_
  refine ow_z hT (fun T (hT : sc_wf 30 T) => ?_)
  refine ow_c (w6_init 29 T hT) (fun T (hT : sc_wf 30 T) => ?_)
  refine ow_R (by decide) hT (fun T (hT : sc_wf 30 T) => ?_)
  refine ow_if ?_
  refine ow_z hT (fun T (hT : sc_wf 31 T) => ?_)
  refine ow_c (w6_init 30 T hT) (fun T (hT : sc_wf 31 T) => ?_)
  refine ow_R (by decide) hT (fun T (hT : sc_wf 31 T) => ?_)
  refine ow_if ?_
  refine ow_z hT (fun T (hT : sc_wf 32 T) => ?_)
  refine ow_c (w6_init 31 T hT) (fun T (hT : sc_wf 32 T) => ?_)
  refine ow_R (by decide) hT (fun T (hT : sc_wf 32 T) => ?_)
  refine ow_if ?_
  refine ow_z hT (fun T (hT : sc_wf 33 T) => ?_)
  refine ow_c (w6_init 32 T hT) (fun T (hT : sc_wf 33 T) => ?_)
  refine ow_R (by decide) hT (fun T (hT : sc_wf 33 T) => ?_)
  refine ow_if ?_
  refine ow_z hT (fun T (hT : sc_wf 34 T) => ?_)
  refine ow_c (w6_init 33 T hT) (fun T (hT : sc_wf 34 T) => ?_)
  refine ow_R (by decide) hT (fun T (hT : sc_wf 34 T) => ?_)
  refine ow_if ?_
  refine ow_z hT (fun T (hT : sc_wf 35 T) => ?_)
  refine ow_c (w6_init 34 T hT) (fun T (hT : sc_wf 35 T) => ?_)
  refine ow_R (by decide) hT (fun T (hT : sc_wf 35 T) => ?_)
  refine ow_if ?_
  refine ow_z hT (fun T (hT : sc_wf 36 T) => ?_)
  refine ow_c (w6_init 35 T hT) (fun T (hT : sc_wf 36 T) => ?_)
  refine ow_R (by decide) hT (fun T (hT : sc_wf 36 T) => ?_)
  exact ow_r hT
set_option maxHeartbeats 4000000 in
set_option maxRecDepth 20000 in
theorem s0_init (n : Nat) (T : sc_t) (hT : sc_wf 23 T) : sm_P (sc_j (sc_sh n 36)) k0_init [.ref 22] (sc_sh n 23, T) (c0_init T) := by
  show sm_S (sc_j (sc_sh n 36)) k0_init 0 0 0 [some (.ref 22), none] [] (sc_sh n 23, T) (c0_init T)
  unfold c0_init
  refine sd_aload_n (pc := 0) d0_init_0 rfl ?_
  refine sd_obj (pc := 1) 3 mb0_3 mo.1 mo.2 (Nat.le_of_ble_eq_true rfl) (Nat.le_of_ble_eq_true rfl) d0_init_1 ?_
  refine sd_aload_n (pc := 4) d0_init_4 rfl ?_
  refine sd_bipush (pc := 5) 12 d0_init_5 (by decide) ?_
  refine sc_newq (pc := 7) 6 12 11 (fun _ => rfl) cx0_11 (by decide) (by decide) (by decide) (Nat.le_of_ble_eq_true rfl) hT rfl (by decide) (Nat.le_of_ble_eq_true rfl) (Nat.le_of_ble_eq_true rfl) d0_init_7 (fun T (hT : sc_wf 24 T) => ?_)
  refine sd_cast (M' := (sc_sh n 24, T)) (st' := [.ref 23, .ref 22]) (cs' := 1) (sl' := 12) rfl rfl rfl rfl ?_
  refine sc_putR (pc := 10) (a := 22) (ci := 0) (i := 0) (b := 23) rfl (by decide) rfl (fun _ => ⟨rfl, rfl⟩) (Nat.le_of_ble_eq_true rfl) fl0_13 (Or.inr ⟨rfl, rfl, rfl⟩) hT d0_init_10 (fun T (hT : sc_wf 24 T) => ?_)
  refine sd_aload_n (pc := 13) d0_init_13 rfl ?_
  refine sd_iconst (pc := 14) 0 d0_init_14 (by decide) ?_
  refine sc_putI (pc := 15) (a := 22) (ci := 0) (i := 1) rfl (by decide) (Or.inl rfl) fl0_17 (Or.inl rfl) hT d0_init_15 (fun T (hT : sc_wf 24 T) => ?_)
  refine sd_iconst (pc := 18) 0 d0_init_18 (by decide) ?_
  refine sd_istore_n (lf2 := [some (.ref 22), some (.int 0)]) (pc := 19) d0_init_19 (Nat.le_of_ble_eq_true rfl) rfl ?_
  refine sd_iload_n (pc := 20) d0_init_20 rfl ?_
  refine sd_bipush (pc := 21) 12 d0_init_21 (by decide) ?_
  refine sd_brf (c := (12 : Int32) ≤ 0) (o1 := none) (by decide) (sd_ic_ge (pc := 23) 45 d0_init_23 (by decide) (fun _ => sd_none) (fun _ => ?_))
  refine sd_aload_n (pc := 26) d0_init_26 rfl ?_
  refine sc_getR (pc := 27) (a := 22) (ci := 0) (i := 0) 23 rfl (by decide) rfl fl0_13 d0_init_27 ?_
  refine sd_iload_n (pc := 30) d0_init_30 rfl ?_
  refine sc_new (pc := 31) 11 5 (by decide) (by decide) cx0_11 ci6.1 ci6.2 (Nat.le_of_ble_eq_true rfl) hT rfl (by decide) (Nat.le_of_ble_eq_true rfl) (Nat.le_of_ble_eq_true rfl) d0_init_31 (fun T (hT : sc_wf 25 T) => ?_)
  refine sd_cast (M' := (sc_sh n 25, T)) (st' := [.ref 24, .int 0, .ref 23]) (cs' := 2) (sl' := 17) rfl rfl rfl rfl ?_
  refine sd_dup (pc := 34) d0_init_34 rfl ?_
  refine sc_cIN (pc := 35) (b := 24) (k2 := k6_init) (s2 := sc_sh n 25) 21 "TwoFliers" d0_init_35 ml0_21 mi6_init rfl me6_init rfl ⟨(Nat.le_of_ble_eq_true rfl), (Nat.le_of_ble_eq_true rfl)⟩ (Nat.le_of_ble_eq_true rfl) (Nat.le_of_ble_eq_true rfl) (by decide) (Nat.le_of_ble_eq_true rfl) (Nat.le_of_ble_eq_true rfl) (Nat.le_of_ble_eq_true rfl) (Nat.le_of_ble_eq_true rfl) rfl (s6_init 24 rfl (by decide) T hT) (w6_init 24 T hT) (fun T (hT : sc_wf 25 T) => ?_)
  refine sd_cast (M' := (sc_sh n 25, T)) (st' := [.ref 24, .int 0, .ref 23]) (cs' := 2) (sl' := 17) rfl rfl rfl rfl ?_
  refine sc_aast (pc := 38) (a := 23) (n := 12) (b := 24) rfl (by decide) rfl (by decide) (by decide) hT d0_init_38 (fun T (hT : sc_wf 25 T) => ?_)
  refine sd_iinc (lf2 := [some (.ref 22), some (.int 1)]) (pc := 39) d0_init_39 (Nat.le_of_ble_eq_true rfl) rfl (show Int32.ofInt 1 = 1 by decide) (by decide) ?_
  refine sd_goto (pc := 42) 20 d0_init_42 (by decide) ?_
  refine sd_iload_n (pc := 20) d0_init_20 rfl ?_
  refine sd_bipush (pc := 21) 12 d0_init_21 (by decide) ?_
  refine sd_brf (c := (12 : Int32) ≤ 1) (o1 := none) (by decide) (sd_ic_ge (pc := 23) 45 d0_init_23 (by decide) (fun _ => sd_none) (fun _ => ?_))
  refine sd_aload_n (pc := 26) d0_init_26 rfl ?_
  refine sc_getR (pc := 27) (a := 22) (ci := 0) (i := 0) 23 rfl (by decide) rfl fl0_13 d0_init_27 ?_
  refine sd_iload_n (pc := 30) d0_init_30 rfl ?_
  refine sc_new (pc := 31) 11 5 (by decide) (by decide) cx0_11 ci6.1 ci6.2 (Nat.le_of_ble_eq_true rfl) hT rfl (by decide) (Nat.le_of_ble_eq_true rfl) (Nat.le_of_ble_eq_true rfl) d0_init_31 (fun T (hT : sc_wf 26 T) => ?_)
  refine sd_cast (M' := (sc_sh n 26, T)) (st' := [.ref 25, .int 1, .ref 23]) (cs' := 3) (sl' := 22) rfl rfl rfl rfl ?_
  refine sd_dup (pc := 34) d0_init_34 rfl ?_
  refine sc_cIN (pc := 35) (b := 25) (k2 := k6_init) (s2 := sc_sh n 26) 21 "TwoFliers" d0_init_35 ml0_21 mi6_init rfl me6_init rfl ⟨(Nat.le_of_ble_eq_true rfl), (Nat.le_of_ble_eq_true rfl)⟩ (Nat.le_of_ble_eq_true rfl) (Nat.le_of_ble_eq_true rfl) (by decide) (Nat.le_of_ble_eq_true rfl) (Nat.le_of_ble_eq_true rfl) (Nat.le_of_ble_eq_true rfl) (Nat.le_of_ble_eq_true rfl) rfl (s6_init 25 rfl (by decide) T hT) (w6_init 25 T hT) (fun T (hT : sc_wf 26 T) => ?_)
  refine sd_cast (M' := (sc_sh n 26, T)) (st' := [.ref 25, .int 1, .ref 23]) (cs' := 3) (sl' := 22) rfl rfl rfl rfl ?_
  refine sc_aast (pc := 38) (a := 23) (n := 12) (b := 25) rfl (by decide) rfl (by decide) (by decide) hT d0_init_38 (fun T (hT : sc_wf 26 T) => ?_)
  refine sd_iinc (lf2 := [some (.ref 22), some (.int 2)]) (pc := 39) d0_init_39 (Nat.le_of_ble_eq_true rfl) rfl (show Int32.ofInt 1 = 1 by decide) (by decide) ?_
  refine sd_goto (pc := 42) 20 d0_init_42 (by decide) ?_
  refine sd_iload_n (pc := 20) d0_init_20 rfl ?_
  refine sd_bipush (pc := 21) 12 d0_init_21 (by decide) ?_
  refine sd_brf (c := (12 : Int32) ≤ 2) (o1 := none) (by decide) (sd_ic_ge (pc := 23) 45 d0_init_23 (by decide) (fun _ => sd_none) (fun _ => ?_))
  refine sd_aload_n (pc := 26) d0_init_26 rfl ?_
  refine sc_getR (pc := 27) (a := 22) (ci := 0) (i := 0) 23 rfl (by decide) rfl fl0_13 d0_init_27 ?_
  refine sd_iload_n (pc := 30) d0_init_30 rfl ?_
  refine sc_new (pc := 31) 11 5 (by decide) (by decide) cx0_11 ci6.1 ci6.2 (Nat.le_of_ble_eq_true rfl) hT rfl (by decide) (Nat.le_of_ble_eq_true rfl) (Nat.le_of_ble_eq_true rfl) d0_init_31 (fun T (hT : sc_wf 27 T) => ?_)
  refine sd_cast (M' := (sc_sh n 27, T)) (st' := [.ref 26, .int 2, .ref 23]) (cs' := 4) (sl' := 27) rfl rfl rfl rfl ?_
  refine sd_dup (pc := 34) d0_init_34 rfl ?_
  refine sc_cIN (pc := 35) (b := 26) (k2 := k6_init) (s2 := sc_sh n 27) 21 "TwoFliers" d0_init_35 ml0_21 mi6_init rfl me6_init rfl ⟨(Nat.le_of_ble_eq_true rfl), (Nat.le_of_ble_eq_true rfl)⟩ (Nat.le_of_ble_eq_true rfl) (Nat.le_of_ble_eq_true rfl) (by decide) (Nat.le_of_ble_eq_true rfl) (Nat.le_of_ble_eq_true rfl) (Nat.le_of_ble_eq_true rfl) (Nat.le_of_ble_eq_true rfl) rfl (s6_init 26 rfl (by decide) T hT) (w6_init 26 T hT) (fun T (hT : sc_wf 27 T) => ?_)
  refine sd_cast (M' := (sc_sh n 27, T)) (st' := [.ref 26, .int 2, .ref 23]) (cs' := 4) (sl' := 27) rfl rfl rfl rfl ?_
  refine sc_aast (pc := 38) (a := 23) (n := 12) (b := 26) rfl (by decide) rfl (by decide) (by decide) hT d0_init_38 (fun T (hT : sc_wf 27 T) => ?_)
  refine sd_iinc (lf2 := [some (.ref 22), some (.int 3)]) (pc := 39) d0_init_39 (Nat.le_of_ble_eq_true rfl) rfl (show Int32.ofInt 1 = 1 by decide) (by decide) ?_
  refine sd_goto (pc := 42) 20 d0_init_42 (by decide) ?_
  refine sd_iload_n (pc := 20) d0_init_20 rfl ?_
  refine sd_bipush (pc := 21) 12 d0_init_21 (by decide) ?_
  refine sd_brf (c := (12 : Int32) ≤ 3) (o1 := none) (by decide) (sd_ic_ge (pc := 23) 45 d0_init_23 (by decide) (fun _ => sd_none) (fun _ => ?_))
  refine sd_aload_n (pc := 26) d0_init_26 rfl ?_
  refine sc_getR (pc := 27) (a := 22) (ci := 0) (i := 0) 23 rfl (by decide) rfl fl0_13 d0_init_27 ?_
  refine sd_iload_n (pc := 30) d0_init_30 rfl ?_
  refine sc_new (pc := 31) 11 5 (by decide) (by decide) cx0_11 ci6.1 ci6.2 (Nat.le_of_ble_eq_true rfl) hT rfl (by decide) (Nat.le_of_ble_eq_true rfl) (Nat.le_of_ble_eq_true rfl) d0_init_31 (fun T (hT : sc_wf 28 T) => ?_)
  refine sd_cast (M' := (sc_sh n 28, T)) (st' := [.ref 27, .int 3, .ref 23]) (cs' := 5) (sl' := 32) rfl rfl rfl rfl ?_
  refine sd_dup (pc := 34) d0_init_34 rfl ?_
  refine sc_cIN (pc := 35) (b := 27) (k2 := k6_init) (s2 := sc_sh n 28) 21 "TwoFliers" d0_init_35 ml0_21 mi6_init rfl me6_init rfl ⟨(Nat.le_of_ble_eq_true rfl), (Nat.le_of_ble_eq_true rfl)⟩ (Nat.le_of_ble_eq_true rfl) (Nat.le_of_ble_eq_true rfl) (by decide) (Nat.le_of_ble_eq_true rfl) (Nat.le_of_ble_eq_true rfl) (Nat.le_of_ble_eq_true rfl) (Nat.le_of_ble_eq_true rfl) rfl (s6_init 27 rfl (by decide) T hT) (w6_init 27 T hT) (fun T (hT : sc_wf 28 T) => ?_)
  refine sd_cast (M' := (sc_sh n 28, T)) (st' := [.ref 27, .int 3, .ref 23]) (cs' := 5) (sl' := 32) rfl rfl rfl rfl ?_
  refine sc_aast (pc := 38) (a := 23) (n := 12) (b := 27) rfl (by decide) rfl (by decide) (by decide) hT d0_init_38 (fun T (hT : sc_wf 28 T) => ?_)
  refine sd_iinc (lf2 := [some (.ref 22), some (.int 4)]) (pc := 39) d0_init_39 (Nat.le_of_ble_eq_true rfl) rfl (show Int32.ofInt 1 = 1 by decide) (by decide) ?_
  refine sd_goto (pc := 42) 20 d0_init_42 (by decide) ?_
  refine sd_iload_n (pc := 20) d0_init_20 rfl ?_
  refine sd_bipush (pc := 21) 12 d0_init_21 (by decide) ?_
  refine sd_brf (c := (12 : Int32) ≤ 4) (o1 := none) (by decide) (sd_ic_ge (pc := 23) 45 d0_init_23 (by decide) (fun _ => sd_none) (fun _ => ?_))
  refine sd_aload_n (pc := 26) d0_init_26 rfl ?_
  refine sc_getR (pc := 27) (a := 22) (ci := 0) (i := 0) 23 rfl (by decide) rfl fl0_13 d0_init_27 ?_
  refine sd_iload_n (pc := 30) d0_init_30 rfl ?_
  refine sc_new (pc := 31) 11 5 (by decide) (by decide) cx0_11 ci6.1 ci6.2 (Nat.le_of_ble_eq_true rfl) hT rfl (by decide) (Nat.le_of_ble_eq_true rfl) (Nat.le_of_ble_eq_true rfl) d0_init_31 (fun T (hT : sc_wf 29 T) => ?_)
  refine sd_cast (M' := (sc_sh n 29, T)) (st' := [.ref 28, .int 4, .ref 23]) (cs' := 6) (sl' := 37) rfl rfl rfl rfl ?_
  refine sd_dup (pc := 34) d0_init_34 rfl ?_
  refine sc_cIN (pc := 35) (b := 28) (k2 := k6_init) (s2 := sc_sh n 29) 21 "TwoFliers" d0_init_35 ml0_21 mi6_init rfl me6_init rfl ⟨(Nat.le_of_ble_eq_true rfl), (Nat.le_of_ble_eq_true rfl)⟩ (Nat.le_of_ble_eq_true rfl) (Nat.le_of_ble_eq_true rfl) (by decide) (Nat.le_of_ble_eq_true rfl) (Nat.le_of_ble_eq_true rfl) (Nat.le_of_ble_eq_true rfl) (Nat.le_of_ble_eq_true rfl) rfl (s6_init 28 rfl (by decide) T hT) (w6_init 28 T hT) (fun T (hT : sc_wf 29 T) => ?_)
  refine sd_cast (M' := (sc_sh n 29, T)) (st' := [.ref 28, .int 4, .ref 23]) (cs' := 6) (sl' := 37) rfl rfl rfl rfl ?_
  refine sc_aast (pc := 38) (a := 23) (n := 12) (b := 28) rfl (by decide) rfl (by decide) (by decide) hT d0_init_38 (fun T (hT : sc_wf 29 T) => ?_)
  refine sd_iinc (lf2 := [some (.ref 22), some (.int 5)]) (pc := 39) d0_init_39 (Nat.le_of_ble_eq_true rfl) rfl (show Int32.ofInt 1 = 1 by decide) (by decide) ?_
  refine sd_goto (pc := 42) 20 d0_init_42 (by decide) ?_
  refine sd_iload_n (pc := 20) d0_init_20 rfl ?_
  refine sd_bipush (pc := 21) 12 d0_init_21 (by decide) ?_
  refine sd_brf (c := (12 : Int32) ≤ 5) (o1 := none) (by decide) (sd_ic_ge (pc := 23) 45 d0_init_23 (by decide) (fun _ => sd_none) (fun _ => ?_))
  refine sd_aload_n (pc := 26) d0_init_26 rfl ?_
  refine sc_getR (pc := 27) (a := 22) (ci := 0) (i := 0) 23 rfl (by decide) rfl fl0_13 d0_init_27 ?_
  refine sd_iload_n (pc := 30) d0_init_30 rfl ?_
  refine sc_new (pc := 31) 11 5 (by decide) (by decide) cx0_11 ci6.1 ci6.2 (Nat.le_of_ble_eq_true rfl) hT rfl (by decide) (Nat.le_of_ble_eq_true rfl) (Nat.le_of_ble_eq_true rfl) d0_init_31 (fun T (hT : sc_wf 30 T) => ?_)
  refine sd_cast (M' := (sc_sh n 30, T)) (st' := [.ref 29, .int 5, .ref 23]) (cs' := 7) (sl' := 42) rfl rfl rfl rfl ?_
  refine sd_dup (pc := 34) d0_init_34 rfl ?_
  refine sc_cIN (pc := 35) (b := 29) (k2 := k6_init) (s2 := sc_sh n 30) 21 "TwoFliers" d0_init_35 ml0_21 mi6_init rfl me6_init rfl ⟨(Nat.le_of_ble_eq_true rfl), (Nat.le_of_ble_eq_true rfl)⟩ (Nat.le_of_ble_eq_true rfl) (Nat.le_of_ble_eq_true rfl) (by decide) (Nat.le_of_ble_eq_true rfl) (Nat.le_of_ble_eq_true rfl) (Nat.le_of_ble_eq_true rfl) (Nat.le_of_ble_eq_true rfl) rfl (s6_init 29 rfl (by decide) T hT) (w6_init 29 T hT) (fun T (hT : sc_wf 30 T) => ?_)
  refine sd_cast (M' := (sc_sh n 30, T)) (st' := [.ref 29, .int 5, .ref 23]) (cs' := 7) (sl' := 42) rfl rfl rfl rfl ?_
  refine sc_aast (pc := 38) (a := 23) (n := 12) (b := 29) rfl (by decide) rfl (by decide) (by decide) hT d0_init_38 (fun T (hT : sc_wf 30 T) => ?_)
  refine sd_iinc (lf2 := [some (.ref 22), some (.int 6)]) (pc := 39) d0_init_39 (Nat.le_of_ble_eq_true rfl) rfl (show Int32.ofInt 1 = 1 by decide) (by decide) ?_
  refine sd_goto (pc := 42) 20 d0_init_42 (by decide) ?_
  refine sd_iload_n (pc := 20) d0_init_20 rfl ?_
  refine sd_bipush (pc := 21) 12 d0_init_21 (by decide) ?_
  refine sd_brf (c := (12 : Int32) ≤ 6) (o1 := none) (by decide) (sd_ic_ge (pc := 23) 45 d0_init_23 (by decide) (fun _ => sd_none) (fun _ => ?_))
  refine sd_aload_n (pc := 26) d0_init_26 rfl ?_
  refine sc_getR (pc := 27) (a := 22) (ci := 0) (i := 0) 23 rfl (by decide) rfl fl0_13 d0_init_27 ?_
  refine sd_iload_n (pc := 30) d0_init_30 rfl ?_
  refine sc_new (pc := 31) 11 5 (by decide) (by decide) cx0_11 ci6.1 ci6.2 (Nat.le_of_ble_eq_true rfl) hT rfl (by decide) (Nat.le_of_ble_eq_true rfl) (Nat.le_of_ble_eq_true rfl) d0_init_31 (fun T (hT : sc_wf 31 T) => ?_)
  refine sd_cast (M' := (sc_sh n 31, T)) (st' := [.ref 30, .int 6, .ref 23]) (cs' := 8) (sl' := 47) rfl rfl rfl rfl ?_
  refine sd_dup (pc := 34) d0_init_34 rfl ?_
  refine sc_cIN (pc := 35) (b := 30) (k2 := k6_init) (s2 := sc_sh n 31) 21 "TwoFliers" d0_init_35 ml0_21 mi6_init rfl me6_init rfl ⟨(Nat.le_of_ble_eq_true rfl), (Nat.le_of_ble_eq_true rfl)⟩ (Nat.le_of_ble_eq_true rfl) (Nat.le_of_ble_eq_true rfl) (by decide) (Nat.le_of_ble_eq_true rfl) (Nat.le_of_ble_eq_true rfl) (Nat.le_of_ble_eq_true rfl) (Nat.le_of_ble_eq_true rfl) rfl (s6_init 30 rfl (by decide) T hT) (w6_init 30 T hT) (fun T (hT : sc_wf 31 T) => ?_)
  refine sd_cast (M' := (sc_sh n 31, T)) (st' := [.ref 30, .int 6, .ref 23]) (cs' := 8) (sl' := 47) rfl rfl rfl rfl ?_
  refine sc_aast (pc := 38) (a := 23) (n := 12) (b := 30) rfl (by decide) rfl (by decide) (by decide) hT d0_init_38 (fun T (hT : sc_wf 31 T) => ?_)
  refine sd_iinc (lf2 := [some (.ref 22), some (.int 7)]) (pc := 39) d0_init_39 (Nat.le_of_ble_eq_true rfl) rfl (show Int32.ofInt 1 = 1 by decide) (by decide) ?_
  refine sd_goto (pc := 42) 20 d0_init_42 (by decide) ?_
  refine sd_iload_n (pc := 20) d0_init_20 rfl ?_
  refine sd_bipush (pc := 21) 12 d0_init_21 (by decide) ?_
  refine sd_brf (c := (12 : Int32) ≤ 7) (o1 := none) (by decide) (sd_ic_ge (pc := 23) 45 d0_init_23 (by decide) (fun _ => sd_none) (fun _ => ?_))
  refine sd_aload_n (pc := 26) d0_init_26 rfl ?_
  refine sc_getR (pc := 27) (a := 22) (ci := 0) (i := 0) 23 rfl (by decide) rfl fl0_13 d0_init_27 ?_
  refine sd_iload_n (pc := 30) d0_init_30 rfl ?_
  refine sc_new (pc := 31) 11 5 (by decide) (by decide) cx0_11 ci6.1 ci6.2 (Nat.le_of_ble_eq_true rfl) hT rfl (by decide) (Nat.le_of_ble_eq_true rfl) (Nat.le_of_ble_eq_true rfl) d0_init_31 (fun T (hT : sc_wf 32 T) => ?_)
  refine sd_cast (M' := (sc_sh n 32, T)) (st' := [.ref 31, .int 7, .ref 23]) (cs' := 9) (sl' := 52) rfl rfl rfl rfl ?_
  refine sd_dup (pc := 34) d0_init_34 rfl ?_
  refine sc_cIN (pc := 35) (b := 31) (k2 := k6_init) (s2 := sc_sh n 32) 21 "TwoFliers" d0_init_35 ml0_21 mi6_init rfl me6_init rfl ⟨(Nat.le_of_ble_eq_true rfl), (Nat.le_of_ble_eq_true rfl)⟩ (Nat.le_of_ble_eq_true rfl) (Nat.le_of_ble_eq_true rfl) (by decide) (Nat.le_of_ble_eq_true rfl) (Nat.le_of_ble_eq_true rfl) (Nat.le_of_ble_eq_true rfl) (Nat.le_of_ble_eq_true rfl) rfl (s6_init 31 rfl (by decide) T hT) (w6_init 31 T hT) (fun T (hT : sc_wf 32 T) => ?_)
  refine sd_cast (M' := (sc_sh n 32, T)) (st' := [.ref 31, .int 7, .ref 23]) (cs' := 9) (sl' := 52) rfl rfl rfl rfl ?_
  refine sc_aast (pc := 38) (a := 23) (n := 12) (b := 31) rfl (by decide) rfl (by decide) (by decide) hT d0_init_38 (fun T (hT : sc_wf 32 T) => ?_)
  refine sd_iinc (lf2 := [some (.ref 22), some (.int 8)]) (pc := 39) d0_init_39 (Nat.le_of_ble_eq_true rfl) rfl (show Int32.ofInt 1 = 1 by decide) (by decide) ?_
  refine sd_goto (pc := 42) 20 d0_init_42 (by decide) ?_
  refine sd_iload_n (pc := 20) d0_init_20 rfl ?_
  refine sd_bipush (pc := 21) 12 d0_init_21 (by decide) ?_
  refine sd_brf (c := (12 : Int32) ≤ 8) (o1 := none) (by decide) (sd_ic_ge (pc := 23) 45 d0_init_23 (by decide) (fun _ => sd_none) (fun _ => ?_))
  refine sd_aload_n (pc := 26) d0_init_26 rfl ?_
  refine sc_getR (pc := 27) (a := 22) (ci := 0) (i := 0) 23 rfl (by decide) rfl fl0_13 d0_init_27 ?_
  refine sd_iload_n (pc := 30) d0_init_30 rfl ?_
  refine sc_new (pc := 31) 11 5 (by decide) (by decide) cx0_11 ci6.1 ci6.2 (Nat.le_of_ble_eq_true rfl) hT rfl (by decide) (Nat.le_of_ble_eq_true rfl) (Nat.le_of_ble_eq_true rfl) d0_init_31 (fun T (hT : sc_wf 33 T) => ?_)
  refine sd_cast (M' := (sc_sh n 33, T)) (st' := [.ref 32, .int 8, .ref 23]) (cs' := 10) (sl' := 57) rfl rfl rfl rfl ?_
  refine sd_dup (pc := 34) d0_init_34 rfl ?_
  refine sc_cIN (pc := 35) (b := 32) (k2 := k6_init) (s2 := sc_sh n 33) 21 "TwoFliers" d0_init_35 ml0_21 mi6_init rfl me6_init rfl ⟨(Nat.le_of_ble_eq_true rfl), (Nat.le_of_ble_eq_true rfl)⟩ (Nat.le_of_ble_eq_true rfl) (Nat.le_of_ble_eq_true rfl) (by decide) (Nat.le_of_ble_eq_true rfl) (Nat.le_of_ble_eq_true rfl) (Nat.le_of_ble_eq_true rfl) (Nat.le_of_ble_eq_true rfl) rfl (s6_init 32 rfl (by decide) T hT) (w6_init 32 T hT) (fun T (hT : sc_wf 33 T) => ?_)
  refine sd_cast (M' := (sc_sh n 33, T)) (st' := [.ref 32, .int 8, .ref 23]) (cs' := 10) (sl' := 57) rfl rfl rfl rfl ?_
  refine sc_aast (pc := 38) (a := 23) (n := 12) (b := 32) rfl (by decide) rfl (by decide) (by decide) hT d0_init_38 (fun T (hT : sc_wf 33 T) => ?_)
  refine sd_iinc (lf2 := [some (.ref 22), some (.int 9)]) (pc := 39) d0_init_39 (Nat.le_of_ble_eq_true rfl) rfl (show Int32.ofInt 1 = 1 by decide) (by decide) ?_
  refine sd_goto (pc := 42) 20 d0_init_42 (by decide) ?_
  refine sd_iload_n (pc := 20) d0_init_20 rfl ?_
  refine sd_bipush (pc := 21) 12 d0_init_21 (by decide) ?_
  refine sd_brf (c := (12 : Int32) ≤ 9) (o1 := none) (by decide) (sd_ic_ge (pc := 23) 45 d0_init_23 (by decide) (fun _ => sd_none) (fun _ => ?_))
  refine sd_aload_n (pc := 26) d0_init_26 rfl ?_
  refine sc_getR (pc := 27) (a := 22) (ci := 0) (i := 0) 23 rfl (by decide) rfl fl0_13 d0_init_27 ?_
  refine sd_iload_n (pc := 30) d0_init_30 rfl ?_
  refine sc_new (pc := 31) 11 5 (by decide) (by decide) cx0_11 ci6.1 ci6.2 (Nat.le_of_ble_eq_true rfl) hT rfl (by decide) (Nat.le_of_ble_eq_true rfl) (Nat.le_of_ble_eq_true rfl) d0_init_31 (fun T (hT : sc_wf 34 T) => ?_)
  refine sd_cast (M' := (sc_sh n 34, T)) (st' := [.ref 33, .int 9, .ref 23]) (cs' := 11) (sl' := 62) rfl rfl rfl rfl ?_
  refine sd_dup (pc := 34) d0_init_34 rfl ?_
  refine sc_cIN (pc := 35) (b := 33) (k2 := k6_init) (s2 := sc_sh n 34) 21 "TwoFliers" d0_init_35 ml0_21 mi6_init rfl me6_init rfl ⟨(Nat.le_of_ble_eq_true rfl), (Nat.le_of_ble_eq_true rfl)⟩ (Nat.le_of_ble_eq_true rfl) (Nat.le_of_ble_eq_true rfl) (by decide) (Nat.le_of_ble_eq_true rfl) (Nat.le_of_ble_eq_true rfl) (Nat.le_of_ble_eq_true rfl) (Nat.le_of_ble_eq_true rfl) rfl (s6_init 33 rfl (by decide) T hT) (w6_init 33 T hT) (fun T (hT : sc_wf 34 T) => ?_)
  refine sd_cast (M' := (sc_sh n 34, T)) (st' := [.ref 33, .int 9, .ref 23]) (cs' := 11) (sl' := 62) rfl rfl rfl rfl ?_
  refine sc_aast (pc := 38) (a := 23) (n := 12) (b := 33) rfl (by decide) rfl (by decide) (by decide) hT d0_init_38 (fun T (hT : sc_wf 34 T) => ?_)
  refine sd_iinc (lf2 := [some (.ref 22), some (.int 10)]) (pc := 39) d0_init_39 (Nat.le_of_ble_eq_true rfl) rfl (show Int32.ofInt 1 = 1 by decide) (by decide) ?_
  refine sd_goto (pc := 42) 20 d0_init_42 (by decide) ?_
  refine sd_iload_n (pc := 20) d0_init_20 rfl ?_
  refine sd_bipush (pc := 21) 12 d0_init_21 (by decide) ?_
  refine sd_brf (c := (12 : Int32) ≤ 10) (o1 := none) (by decide) (sd_ic_ge (pc := 23) 45 d0_init_23 (by decide) (fun _ => sd_none) (fun _ => ?_))
  refine sd_aload_n (pc := 26) d0_init_26 rfl ?_
  refine sc_getR (pc := 27) (a := 22) (ci := 0) (i := 0) 23 rfl (by decide) rfl fl0_13 d0_init_27 ?_
  refine sd_iload_n (pc := 30) d0_init_30 rfl ?_
  refine sc_new (pc := 31) 11 5 (by decide) (by decide) cx0_11 ci6.1 ci6.2 (Nat.le_of_ble_eq_true rfl) hT rfl (by decide) (Nat.le_of_ble_eq_true rfl) (Nat.le_of_ble_eq_true rfl) d0_init_31 (fun T (hT : sc_wf 35 T) => ?_)
  refine sd_cast (M' := (sc_sh n 35, T)) (st' := [.ref 34, .int 10, .ref 23]) (cs' := 12) (sl' := 67) rfl rfl rfl rfl ?_
  refine sd_dup (pc := 34) d0_init_34 rfl ?_
  refine sc_cIN (pc := 35) (b := 34) (k2 := k6_init) (s2 := sc_sh n 35) 21 "TwoFliers" d0_init_35 ml0_21 mi6_init rfl me6_init rfl ⟨(Nat.le_of_ble_eq_true rfl), (Nat.le_of_ble_eq_true rfl)⟩ (Nat.le_of_ble_eq_true rfl) (Nat.le_of_ble_eq_true rfl) (by decide) (Nat.le_of_ble_eq_true rfl) (Nat.le_of_ble_eq_true rfl) (Nat.le_of_ble_eq_true rfl) (Nat.le_of_ble_eq_true rfl) rfl (s6_init 34 rfl (by decide) T hT) (w6_init 34 T hT) (fun T (hT : sc_wf 35 T) => ?_)
  refine sd_cast (M' := (sc_sh n 35, T)) (st' := [.ref 34, .int 10, .ref 23]) (cs' := 12) (sl' := 67) rfl rfl rfl rfl ?_
  refine sc_aast (pc := 38) (a := 23) (n := 12) (b := 34) rfl (by decide) rfl (by decide) (by decide) hT d0_init_38 (fun T (hT : sc_wf 35 T) => ?_)
  refine sd_iinc (lf2 := [some (.ref 22), some (.int 11)]) (pc := 39) d0_init_39 (Nat.le_of_ble_eq_true rfl) rfl (show Int32.ofInt 1 = 1 by decide) (by decide) ?_
  refine sd_goto (pc := 42) 20 d0_init_42 (by decide) ?_
  refine sd_iload_n (pc := 20) d0_init_20 rfl ?_
  refine sd_bipush (pc := 21) 12 d0_init_21 (by decide) ?_
  refine sd_brf (c := (12 : Int32) ≤ 11) (o1 := none) (by decide) (sd_ic_ge (pc := 23) 45 d0_init_23 (by decide) (fun _ => sd_none) (fun _ => ?_))
  refine sd_aload_n (pc := 26) d0_init_26 rfl ?_
  refine sc_getR (pc := 27) (a := 22) (ci := 0) (i := 0) 23 rfl (by decide) rfl fl0_13 d0_init_27 ?_
  refine sd_iload_n (pc := 30) d0_init_30 rfl ?_
  refine sc_new (pc := 31) 11 5 (by decide) (by decide) cx0_11 ci6.1 ci6.2 (Nat.le_of_ble_eq_true rfl) hT rfl (by decide) (Nat.le_of_ble_eq_true rfl) (Nat.le_of_ble_eq_true rfl) d0_init_31 (fun T (hT : sc_wf 36 T) => ?_)
  refine sd_cast (M' := (sc_sh n 36, T)) (st' := [.ref 35, .int 11, .ref 23]) (cs' := 13) (sl' := 72) rfl rfl rfl rfl ?_
  refine sd_dup (pc := 34) d0_init_34 rfl ?_
  refine sc_cIN (pc := 35) (b := 35) (k2 := k6_init) (s2 := sc_sh n 36) 21 "TwoFliers" d0_init_35 ml0_21 mi6_init rfl me6_init rfl ⟨(Nat.le_of_ble_eq_true rfl), (Nat.le_of_ble_eq_true rfl)⟩ (Nat.le_of_ble_eq_true rfl) (Nat.le_of_ble_eq_true rfl) (by decide) (Nat.le_of_ble_eq_true rfl) (Nat.le_of_ble_eq_true rfl) (Nat.le_of_ble_eq_true rfl) (Nat.le_of_ble_eq_true rfl) rfl (s6_init 35 rfl (by decide) T hT) (w6_init 35 T hT) (fun T (hT : sc_wf 36 T) => ?_)
  refine sd_cast (M' := (sc_sh n 36, T)) (st' := [.ref 35, .int 11, .ref 23]) (cs' := 13) (sl' := 72) rfl rfl rfl rfl ?_
  refine sc_aast (pc := 38) (a := 23) (n := 12) (b := 35) rfl (by decide) rfl (by decide) (by decide) hT d0_init_38 (fun T (hT : sc_wf 36 T) => ?_)
  refine sd_iinc (lf2 := [some (.ref 22), some (.int 12)]) (pc := 39) d0_init_39 (Nat.le_of_ble_eq_true rfl) rfl (show Int32.ofInt 1 = 1 by decide) (by decide) ?_
  refine sd_goto (pc := 42) 20 d0_init_42 (by decide) ?_
  refine sd_iload_n (pc := 20) d0_init_20 rfl ?_
  refine sd_bipush (pc := 21) 12 d0_init_21 (by decide) ?_
  refine sd_brt (c := (12 : Int32) ≤ 12) (o2 := none) (by decide) (sd_ic_ge (pc := 23) 45 d0_init_23 (by decide) (fun _ => ?_) (fun _ => sd_none))
  exact sc_vret (pc := 45) d0_init_45 (Nat.le_of_ble_eq_true rfl) (Nat.le_of_ble_eq_true rfl)
def c2_init (T : sc_t) : Option sc_t :=
  sm_n (sc_z T 19) fun T =>
  (c3_init T).bind fun T =>
  sm_n (sc_wR T 18 0 (some 19)) fun T =>
  sm_n (sc_z T 22) fun T =>
  (c0_init T).bind fun T =>
  sm_n (sc_wR T 18 1 (some 22)) fun T =>
  sm_n (sc_zm T 36 3) fun T =>
  sm_n (sc_wR T 18 2 (some 36)) fun T =>
  sm_n (sc_z T 40) fun T =>
  sm_n (sc_wR T 18 3 (some 40)) fun T =>
  sm_n (sc_z T 41) fun T =>
  sm_n (sc_wR T 18 4 (some 41)) fun T =>
  sm_n (sc_wL T 18 5 0) fun T =>
  sm_n (sc_z T 42) fun T =>
  sm_n (sc_wR T 18 6 (some 42)) fun T =>
  sm_n (sc_z T 43) fun T =>
  sm_n (sc_wR T 18 7 (some 43)) fun T =>
  sm_n (sc_z T 44) fun T =>
  sm_n (sc_wR T 18 8 (some 44)) fun T =>
  some T
set_option maxHeartbeats 4000000 in
set_option maxRecDepth 20000 in
theorem w2_init (T : sc_t) (hT : sc_wf 19 T) : sc_ow 45 (c2_init T) := by
  unfold c2_init
  refine ow_z hT (fun T (hT : sc_wf 20 T) => ?_)
  refine ow_c (w3_init T hT) (fun T (hT : sc_wf 22 T) => ?_)
  refine ow_R (by decide) hT (fun T (hT : sc_wf 22 T) => ?_)
  refine ow_z hT (fun T (hT : sc_wf 23 T) => ?_)
  refine ow_c (w0_init T hT) (fun T (hT : sc_wf 36 T) => ?_)
  refine ow_R (by decide) hT (fun T (hT : sc_wf 36 T) => ?_)
  refine ow_zm hT (fun T (hT : sc_wf 40 T) => ?_)
  refine ow_R (by decide) hT (fun T (hT : sc_wf 40 T) => ?_)
  refine ow_z hT (fun T (hT : sc_wf 41 T) => ?_)
  refine ow_R (by decide) hT (fun T (hT : sc_wf 41 T) => ?_)
  refine ow_z hT (fun T (hT : sc_wf 42 T) => ?_)
  refine ow_R (by decide) hT (fun T (hT : sc_wf 42 T) => ?_)
  refine ow_L hT (fun T (hT : sc_wf 42 T) => ?_)
  refine ow_z hT (fun T (hT : sc_wf 43 T) => ?_)
  refine ow_R (by decide) hT (fun T (hT : sc_wf 43 T) => ?_)
  refine ow_z hT (fun T (hT : sc_wf 44 T) => ?_)
  refine ow_R (by decide) hT (fun T (hT : sc_wf 44 T) => ?_)
  refine ow_z hT (fun T (hT : sc_wf 45 T) => ?_)
  refine ow_R (by decide) hT (fun T (hT : sc_wf 45 T) => ?_)
  exact ow_r hT
set_option maxHeartbeats 4000000 in
set_option maxRecDepth 20000 in
theorem s2_init (n : Nat) (T : sc_t) (hT : sc_wf 19 T) : sm_P (sc_j (sc_sh n 45)) k2_init [.ref 18] (sc_sh n 19, T) (c2_init T) := by
  show sm_S (sc_j (sc_sh n 45)) k2_init 0 0 0 [some (.ref 18)] [] (sc_sh n 19, T) (c2_init T)
  unfold c2_init
  refine sd_aload_n (pc := 0) d2_init_0 rfl ?_
  refine sd_obj (pc := 1) 3 mb2_3 mo.1 mo.2 (Nat.le_of_ble_eq_true rfl) (Nat.le_of_ble_eq_true rfl) d2_init_1 ?_
  refine sd_aload_n (pc := 4) d2_init_4 rfl ?_
  refine sc_new (pc := 5) 9 2 (by decide) (by decide) cx2_9 ci3.1 ci3.2 (Nat.le_of_ble_eq_true rfl) hT rfl (by decide) (Nat.le_of_ble_eq_true rfl) (Nat.le_of_ble_eq_true rfl) d2_init_5 (fun T (hT : sc_wf 20 T) => ?_)
  refine sd_cast (M' := (sc_sh n 20, T)) (st' := [.ref 19, .ref 18]) (cs' := 1) (sl' := 4) rfl rfl rfl rfl ?_
  refine sd_dup (pc := 8) d2_init_8 rfl ?_
  refine sc_cI (pc := 9) (b := 19) (k2 := k3_init) (s2 := sc_sh n 22) 11 d2_init_9 ml2_11 mi3_init rfl me3_init rfl ⟨(Nat.le_of_ble_eq_true rfl), (Nat.le_of_ble_eq_true rfl)⟩ (Nat.le_of_ble_eq_true rfl) (Nat.le_of_ble_eq_true rfl) (by decide) (Nat.le_of_ble_eq_true rfl) (Nat.le_of_ble_eq_true rfl) (Nat.le_of_ble_eq_true rfl) (Nat.le_of_ble_eq_true rfl) rfl (s3_init n T hT) (w3_init T hT) (fun T (hT : sc_wf 22 T) => ?_)
  refine sd_cast (M' := (sc_sh n 22, T)) (st' := [.ref 19, .ref 18]) (cs' := 3) (sl' := 17) rfl rfl rfl rfl ?_
  refine sc_putR (pc := 12) (a := 18) (ci := 1) (i := 0) (b := 19) rfl (by decide) rfl (fun _ => ⟨rfl, rfl⟩) (Nat.le_of_ble_eq_true rfl) fl2_12 (Or.inr ⟨rfl, rfl, rfl⟩) hT d2_init_12 (fun T (hT : sc_wf 22 T) => ?_)
  refine sd_aload_n (pc := 15) d2_init_15 rfl ?_
  refine sc_new (pc := 16) 18 0 (by decide) (by decide) cx2_18 ci0.1 ci0.2 (Nat.le_of_ble_eq_true rfl) hT rfl (by decide) (Nat.le_of_ble_eq_true rfl) (Nat.le_of_ble_eq_true rfl) d2_init_16 (fun T (hT : sc_wf 23 T) => ?_)
  refine sd_cast (M' := (sc_sh n 23, T)) (st' := [.ref 22, .ref 18]) (cs' := 4) (sl' := 19) rfl rfl rfl rfl ?_
  refine sd_dup (pc := 19) d2_init_19 rfl ?_
  refine sc_cI (pc := 20) (b := 22) (k2 := k0_init) (s2 := sc_sh n 36) 20 d2_init_20 ml2_20 mi0_init rfl me0_init rfl ⟨(Nat.le_of_ble_eq_true rfl), (Nat.le_of_ble_eq_true rfl)⟩ (Nat.le_of_ble_eq_true rfl) (Nat.le_of_ble_eq_true rfl) (by decide) (Nat.le_of_ble_eq_true rfl) (Nat.le_of_ble_eq_true rfl) (Nat.le_of_ble_eq_true rfl) (Nat.le_of_ble_eq_true rfl) rfl (s0_init n T hT) (w0_init T hT) (fun T (hT : sc_wf 36 T) => ?_)
  refine sd_cast (M' := (sc_sh n 36, T)) (st' := [.ref 22, .ref 18]) (cs' := 17) (sl' := 91) rfl rfl rfl rfl ?_
  refine sc_putR (pc := 23) (a := 18) (ci := 1) (i := 1) (b := 22) rfl (by decide) rfl (fun _ => ⟨rfl, rfl⟩) (Nat.le_of_ble_eq_true rfl) fl2_21 (Or.inr ⟨rfl, rfl, rfl⟩) hT d2_init_23 (fun T (hT : sc_wf 36 T) => ?_)
  refine sd_aload_n (pc := 26) d2_init_26 rfl ?_
  refine sd_iconst (pc := 27) 3 d2_init_27 (by decide) ?_
  refine sd_bipush (pc := 28) 120 d2_init_28 (by decide) ?_
  refine sc_mna (ty := .int) (pc := 30) 4 0 3 120 27 (Or.inl rfl) (fun _ => rfl) (fun _ => rfl) cx2_27 ac_int (by decide) (by decide) (by decide) (by decide) (by decide) (by decide) (by decide) (Nat.le_of_ble_eq_true rfl) hT rfl (by decide) (Nat.le_of_ble_eq_true rfl) (Nat.le_of_ble_eq_true rfl) d2_init_30 (fun T (hT : sc_wf 40 T) => ?_)
  refine sd_cast (M' := (sc_sh n 40, T)) (st' := [.ref 36, .ref 18]) (cs' := 21) (sl' := 454) rfl rfl rfl rfl ?_
  refine sc_putR (pc := 34) (a := 18) (ci := 1) (i := 2) (b := 36) rfl (by decide) rfl (fun _ => ⟨rfl, rfl⟩) (Nat.le_of_ble_eq_true rfl) fl2_29 (Or.inr ⟨rfl, rfl, rfl⟩) hT d2_init_34 (fun T (hT : sc_wf 40 T) => ?_)
  refine sd_aload_n (pc := 37) d2_init_37 rfl ?_
  refine sd_bipush (pc := 38) 120 d2_init_38 (by decide) ?_
  refine sc_newa (atype := .long) (ty := .long) (pc := 40) 1 120 rfl (fun _ => rfl) (Or.inr (Or.inl rfl)) ac_long (by decide) (by decide) (by decide) (Nat.le_of_ble_eq_true rfl) hT rfl (by decide) (Nat.le_of_ble_eq_true rfl) (Nat.le_of_ble_eq_true rfl) d2_init_40 (fun T (hT : sc_wf 41 T) => ?_)
  refine sd_cast (M' := (sc_sh n 41, T)) (st' := [.ref 40, .ref 18]) (cs' := 22) (sl' := 574) rfl rfl rfl rfl ?_
  refine sc_putR (pc := 42) (a := 18) (ci := 1) (i := 3) (b := 40) rfl (by decide) rfl (fun _ => ⟨rfl, rfl⟩) (Nat.le_of_ble_eq_true rfl) fl2_32 (Or.inr ⟨rfl, rfl, rfl⟩) hT d2_init_42 (fun T (hT : sc_wf 41 T) => ?_)
  refine sd_aload_n (pc := 45) d2_init_45 rfl ?_
  refine sd_bipush (pc := 46) 7 d2_init_46 (by decide) ?_
  refine sc_newa (atype := .long) (ty := .long) (pc := 48) 1 7 rfl (fun _ => rfl) (Or.inr (Or.inl rfl)) ac_long (by decide) (by decide) (by decide) (Nat.le_of_ble_eq_true rfl) hT rfl (by decide) (Nat.le_of_ble_eq_true rfl) (Nat.le_of_ble_eq_true rfl) d2_init_48 (fun T (hT : sc_wf 42 T) => ?_)
  refine sd_cast (M' := (sc_sh n 42, T)) (st' := [.ref 41, .ref 18]) (cs' := 23) (sl' := 581) rfl rfl rfl rfl ?_
  refine sc_putR (pc := 50) (a := 18) (ci := 1) (i := 4) (b := 41) rfl (by decide) rfl (fun _ => ⟨rfl, rfl⟩) (Nat.le_of_ble_eq_true rfl) fl2_36 (Or.inr ⟨rfl, rfl, rfl⟩) hT d2_init_50 (fun T (hT : sc_wf 42 T) => ?_)
  refine sd_aload_n (pc := 53) d2_init_53 rfl ?_
  refine sd_lconst (pc := 54) 0 d2_init_54 rfl ?_
  refine sc_putL (pc := 55) (a := 18) (ci := 1) (i := 5) rfl (by decide) rfl fl2_39 rfl hT d2_init_55 (fun T (hT : sc_wf 42 T) => ?_)
  refine sd_aload_n (pc := 58) d2_init_58 rfl ?_
  refine sd_bipush (pc := 59) 120 d2_init_59 (by decide) ?_
  refine sc_newa (atype := .long) (ty := .long) (pc := 61) 1 120 rfl (fun _ => rfl) (Or.inr (Or.inl rfl)) ac_long (by decide) (by decide) (by decide) (Nat.le_of_ble_eq_true rfl) hT rfl (by decide) (Nat.le_of_ble_eq_true rfl) (Nat.le_of_ble_eq_true rfl) d2_init_61 (fun T (hT : sc_wf 43 T) => ?_)
  refine sd_cast (M' := (sc_sh n 43, T)) (st' := [.ref 42, .ref 18]) (cs' := 24) (sl' := 701) rfl rfl rfl rfl ?_
  refine sc_putR (pc := 63) (a := 18) (ci := 1) (i := 6) (b := 42) rfl (by decide) rfl (fun _ => ⟨rfl, rfl⟩) (Nat.le_of_ble_eq_true rfl) fl2_43 (Or.inl rfl) hT d2_init_63 (fun T (hT : sc_wf 43 T) => ?_)
  refine sd_aload_n (pc := 66) d2_init_66 rfl ?_
  refine sd_bipush (pc := 67) 120 d2_init_67 (by decide) ?_
  refine sc_newa (atype := .long) (ty := .long) (pc := 69) 1 120 rfl (fun _ => rfl) (Or.inr (Or.inl rfl)) ac_long (by decide) (by decide) (by decide) (Nat.le_of_ble_eq_true rfl) hT rfl (by decide) (Nat.le_of_ble_eq_true rfl) (Nat.le_of_ble_eq_true rfl) d2_init_69 (fun T (hT : sc_wf 44 T) => ?_)
  refine sd_cast (M' := (sc_sh n 44, T)) (st' := [.ref 43, .ref 18]) (cs' := 25) (sl' := 821) rfl rfl rfl rfl ?_
  refine sc_putR (pc := 71) (a := 18) (ci := 1) (i := 7) (b := 43) rfl (by decide) rfl (fun _ => ⟨rfl, rfl⟩) (Nat.le_of_ble_eq_true rfl) fl2_46 (Or.inl rfl) hT d2_init_71 (fun T (hT : sc_wf 44 T) => ?_)
  refine sd_aload_n (pc := 74) d2_init_74 rfl ?_
  refine sd_bipush (pc := 75) 120 d2_init_75 (by decide) ?_
  refine sc_newa (atype := .long) (ty := .long) (pc := 77) 1 120 rfl (fun _ => rfl) (Or.inr (Or.inl rfl)) ac_long (by decide) (by decide) (by decide) (Nat.le_of_ble_eq_true rfl) hT rfl (by decide) (Nat.le_of_ble_eq_true rfl) (Nat.le_of_ble_eq_true rfl) d2_init_77 (fun T (hT : sc_wf 45 T) => ?_)
  refine sd_cast (M' := (sc_sh n 45, T)) (st' := [.ref 44, .ref 18]) (cs' := 26) (sl' := 941) rfl rfl rfl rfl ?_
  refine sc_putR (pc := 79) (a := 18) (ci := 1) (i := 8) (b := 44) rfl (by decide) rfl (fun _ => ⟨rfl, rfl⟩) (Nat.le_of_ble_eq_true rfl) fl2_49 (Or.inr ⟨rfl, rfl, rfl⟩) hT d2_init_79 (fun T (hT : sc_wf 45 T) => ?_)
  exact sc_vret (pc := 82) d2_init_82 (Nat.le_of_ble_eq_true rfl) (Nat.le_of_ble_eq_true rfl)
def c4_init (T : sc_t) : Option sc_t :=
  sm_n (sc_wR T 46 0 none) fun T =>
  sm_n (sc_wI T 46 1 0) fun T =>
  sm_n (sc_wI T 46 2 0) fun T =>
  sm_n (sc_wI T 46 3 (-9)) fun T =>
  sm_n (sc_z T 47) fun T =>
  sm_n (sc_wR T 46 4 (some 47)) fun T =>
  sm_n (sc_wI T 46 5 0) fun T =>
  some T
set_option maxHeartbeats 4000000 in
set_option maxRecDepth 20000 in
theorem w4_init (T : sc_t) (hT : sc_wf 47 T) : sc_ow 48 (c4_init T) := by
  unfold c4_init
  refine ow_N hT (fun T (hT : sc_wf 47 T) => ?_)
  refine ow_I hT (fun T (hT : sc_wf 47 T) => ?_)
  refine ow_I hT (fun T (hT : sc_wf 47 T) => ?_)
  refine ow_I hT (fun T (hT : sc_wf 47 T) => ?_)
  refine ow_z hT (fun T (hT : sc_wf 48 T) => ?_)
  refine ow_R (by decide) hT (fun T (hT : sc_wf 48 T) => ?_)
  refine ow_I hT (fun T (hT : sc_wf 48 T) => ?_)
  exact ow_r hT
set_option maxHeartbeats 4000000 in
set_option maxRecDepth 20000 in
theorem s4_init (n : Nat) (T : sc_t) (hT : sc_wf 47 T) : sm_P (sc_j (sc_sh n 48)) k4_init [.ref 46] (sc_sh n 47, T) (c4_init T) := by
  show sm_S (sc_j (sc_sh n 48)) k4_init 0 0 0 [some (.ref 46)] [] (sc_sh n 47, T) (c4_init T)
  unfold c4_init
  refine sd_aload_n (pc := 0) d4_init_0 rfl ?_
  refine sd_obj (pc := 1) 3 mb4_3 mo.1 mo.2 (Nat.le_of_ble_eq_true rfl) (Nat.le_of_ble_eq_true rfl) d4_init_1 ?_
  refine sd_aload_n (pc := 4) d4_init_4 rfl ?_
  refine sd_null (pc := 5) d4_init_5 ?_
  refine sc_putN (pc := 6) (a := 46) (ci := 3) (i := 0) rfl (by decide) rfl ⟨rfl, rfl⟩ fl4_9 rfl hT d4_init_6 (fun T (hT : sc_wf 47 T) => ?_)
  refine sd_aload_n (pc := 9) d4_init_9 rfl ?_
  refine sd_iconst (pc := 10) 0 d4_init_10 (by decide) ?_
  refine sc_putI (pc := 11) (a := 46) (ci := 3) (i := 1) rfl (by decide) (Or.inl rfl) fl4_15 (Or.inl rfl) hT d4_init_11 (fun T (hT : sc_wf 47 T) => ?_)
  refine sd_aload_n (pc := 14) d4_init_14 rfl ?_
  refine sd_iconst (pc := 15) 0 d4_init_15 (by decide) ?_
  refine sc_putI (pc := 16) (a := 46) (ci := 3) (i := 2) rfl (by decide) (Or.inl rfl) fl4_19 (Or.inl rfl) hT d4_init_16 (fun T (hT : sc_wf 47 T) => ?_)
  refine sd_aload_n (pc := 19) d4_init_19 rfl ?_
  refine sd_bipush (pc := 20) (-9) d4_init_20 (by decide) ?_
  refine sc_putI (pc := 22) (a := 46) (ci := 3) (i := 3) rfl (by decide) (Or.inl rfl) fl4_22 (Or.inl rfl) hT d4_init_22 (fun T (hT : sc_wf 47 T) => ?_)
  refine sd_aload_n (pc := 25) d4_init_25 rfl ?_
  refine sd_bipush (pc := 26) 120 d4_init_26 (by decide) ?_
  refine sc_newa (atype := .int) (ty := .int) (pc := 28) 0 120 rfl (fun _ => rfl) (Or.inl rfl) ac_int (by decide) (by decide) (by decide) (Nat.le_of_ble_eq_true rfl) hT rfl (by decide) (Nat.le_of_ble_eq_true rfl) (Nat.le_of_ble_eq_true rfl) d4_init_28 (fun T (hT : sc_wf 48 T) => ?_)
  refine sd_cast (M' := (sc_sh n 48, T)) (st' := [.ref 47, .ref 46]) (cs' := 1) (sl' := 120) rfl rfl rfl rfl ?_
  refine sc_putR (pc := 30) (a := 46) (ci := 3) (i := 4) (b := 47) rfl (by decide) rfl (fun _ => ⟨rfl, rfl⟩) (Nat.le_of_ble_eq_true rfl) fl4_27 (Or.inr ⟨rfl, rfl, rfl⟩) hT d4_init_30 (fun T (hT : sc_wf 48 T) => ?_)
  refine sd_aload_n (pc := 33) d4_init_33 rfl ?_
  refine sd_iconst (pc := 34) 0 d4_init_34 (by decide) ?_
  refine sc_putI (pc := 35) (a := 46) (ci := 3) (i := 5) rfl (by decide) (Or.inl rfl) fl4_31 (Or.inl rfl) hT d4_init_35 (fun T (hT : sc_wf 48 T) => ?_)
  exact sc_vret (pc := 38) d4_init_38 (Nat.le_of_ble_eq_true rfl) (Nat.le_of_ble_eq_true rfl)
def c5_init (T : sc_t) : Option sc_t :=
  sm_n (sc_z T 49) fun T =>
  sm_n (sc_wR T 48 0 (some 49)) fun T =>
  sm_n (sc_z T 50) fun T =>
  sm_n (sc_wR T 48 1 (some 50)) fun T =>
  sm_n (sc_wL T 48 2 (-1)) fun T =>
  sm_n (sc_wI T 48 3 0) fun T =>
  some T
set_option maxHeartbeats 4000000 in
set_option maxRecDepth 20000 in
theorem w5_init (T : sc_t) (hT : sc_wf 49 T) : sc_ow 51 (c5_init T) := by
  unfold c5_init
  refine ow_z hT (fun T (hT : sc_wf 50 T) => ?_)
  refine ow_R (by decide) hT (fun T (hT : sc_wf 50 T) => ?_)
  refine ow_z hT (fun T (hT : sc_wf 51 T) => ?_)
  refine ow_R (by decide) hT (fun T (hT : sc_wf 51 T) => ?_)
  refine ow_L hT (fun T (hT : sc_wf 51 T) => ?_)
  refine ow_I hT (fun T (hT : sc_wf 51 T) => ?_)
  exact ow_r hT
set_option maxHeartbeats 4000000 in
set_option maxRecDepth 20000 in
theorem s5_init (n : Nat) (T : sc_t) (hT : sc_wf 49 T) : sm_P (sc_j (sc_sh n 51)) k5_init [.ref 48] (sc_sh n 49, T) (c5_init T) := by
  show sm_S (sc_j (sc_sh n 51)) k5_init 0 0 0 [some (.ref 48)] [] (sc_sh n 49, T) (c5_init T)
  unfold c5_init
  refine sd_aload_n (pc := 0) d5_init_0 rfl ?_
  refine sd_obj (pc := 1) 1 mb5_1 mo.1 mo.2 (Nat.le_of_ble_eq_true rfl) (Nat.le_of_ble_eq_true rfl) d5_init_1 ?_
  refine sd_aload_n (pc := 4) d5_init_4 rfl ?_
  refine sd_iconst (pc := 5) 5 d5_init_5 (by decide) ?_
  refine sc_newa (atype := .int) (ty := .int) (pc := 6) 0 5 rfl (fun _ => rfl) (Or.inl rfl) ac_int (by decide) (by decide) (by decide) (Nat.le_of_ble_eq_true rfl) hT rfl (by decide) (Nat.le_of_ble_eq_true rfl) (Nat.le_of_ble_eq_true rfl) d5_init_6 (fun T (hT : sc_wf 50 T) => ?_)
  refine sd_cast (M' := (sc_sh n 50, T)) (st' := [.ref 49, .ref 48]) (cs' := 1) (sl' := 5) rfl rfl rfl rfl ?_
  refine sc_putR (pc := 8) (a := 48) (ci := 4) (i := 0) (b := 49) rfl (by decide) rfl (fun _ => ⟨rfl, rfl⟩) (Nat.le_of_ble_eq_true rfl) fl5_9 (Or.inr ⟨rfl, rfl, rfl⟩) hT d5_init_8 (fun T (hT : sc_wf 50 T) => ?_)
  refine sd_aload_n (pc := 11) d5_init_11 rfl ?_
  refine sd_iconst (pc := 12) 5 d5_init_12 (by decide) ?_
  refine sc_newa (atype := .int) (ty := .int) (pc := 13) 0 5 rfl (fun _ => rfl) (Or.inl rfl) ac_int (by decide) (by decide) (by decide) (Nat.le_of_ble_eq_true rfl) hT rfl (by decide) (Nat.le_of_ble_eq_true rfl) (Nat.le_of_ble_eq_true rfl) d5_init_13 (fun T (hT : sc_wf 51 T) => ?_)
  refine sd_cast (M' := (sc_sh n 51, T)) (st' := [.ref 50, .ref 48]) (cs' := 2) (sl' := 10) rfl rfl rfl rfl ?_
  refine sc_putR (pc := 15) (a := 48) (ci := 4) (i := 1) (b := 50) rfl (by decide) rfl (fun _ => ⟨rfl, rfl⟩) (Nat.le_of_ble_eq_true rfl) fl5_13 (Or.inr ⟨rfl, rfl, rfl⟩) hT d5_init_15 (fun T (hT : sc_wf 51 T) => ?_)
  refine sd_aload_n (pc := 18) d5_init_18 rfl ?_
  refine sd_ldc2 (pc := 19) cl5_16 d5_init_19 ?_
  refine sc_putL (pc := 22) (a := 48) (ci := 4) (i := 2) rfl (by decide) rfl fl5_18 rfl hT d5_init_22 (fun T (hT : sc_wf 51 T) => ?_)
  refine sd_aload_n (pc := 25) d5_init_25 rfl ?_
  refine sd_iconst (pc := 26) 0 d5_init_26 (by decide) ?_
  refine sc_putI (pc := 27) (a := 48) (ci := 4) (i := 3) rfl (by decide) (Or.inl rfl) fl5_22 (Or.inl rfl) hT d5_init_27 (fun T (hT : sc_wf 51 T) => ?_)
  exact sc_vret (pc := 30) d5_init_30 (Nat.le_of_ble_eq_true rfl) (Nat.le_of_ble_eq_true rfl)
def c7_init (T : sc_t) : Option sc_t :=
  sm_n (sc_zm T 4 6) fun T =>
  sm_n (sc_wR T 3 0 (some 4)) fun T =>
  sm_n (sc_z T 11) fun T =>
  sm_n (sc_wR T 3 1 (some 11)) fun T =>
  sm_n (sc_zm T 12 4) fun T =>
  sm_n (sc_wR T 3 2 (some 12)) fun T =>
  sm_n (sc_z T 17) fun T =>
  sm_n (sc_wR T 3 3 (some 17)) fun T =>
  sm_n (sc_z T 18) fun T =>
  (c2_init T).bind fun T =>
  sm_n (sc_wR T 3 4 (some 18)) fun T =>
  if T.2.2 3 4 = some 18 then (
  if T.2.2 18 0 = some 19 then (
  sm_n (sc_wR T 3 5 (some 19)) fun T =>
  if T.2.2 3 4 = some 18 then (
  if T.2.2 18 1 = some 22 then (
  sm_n (sc_wR T 3 6 (some 22)) fun T =>
  if T.2.2 3 4 = some 18 then (
  if T.2.2 18 2 = some 36 then (
  sm_n (sc_wR T 3 7 (some 36)) fun T =>
  sm_n (sc_z T 45) fun T =>
  sm_n (sc_wR T 3 8 (some 45)) fun T =>
  sm_n (sc_z T 46) fun T =>
  (c4_init T).bind fun T =>
  sm_n (sc_wR T 3 9 (some 46)) fun T =>
  sm_n (sc_z T 48) fun T =>
  (c5_init T).bind fun T =>
  sm_n (sc_wR T 3 10 (some 48)) fun T =>
  sm_n (sc_wI T 3 11 0) fun T =>
  sm_n (sc_wL T 3 12 0) fun T =>
  sm_n (sc_wL T 3 13 1) fun T =>
  sm_n (sc_wI T 3 14 0) fun T =>
  sm_n (sc_z T 51) fun T =>
  sm_n (sc_wR T 3 15 (some 51)) fun T =>
  if T.2.2 3 1 = some 11 then (
  (cA_fill 11 6 (-1) T).bind fun T =>
  if T.2.2 3 3 = some 17 then (
  (cA_fill 17 4 (-1) T).bind fun T =>
  some T) else none) else none) else none) else none) else none) else none) else none) else none
set_option maxHeartbeats 4000000 in
set_option maxRecDepth 20000 in
theorem w7_init (T : sc_t) (hT : sc_wf 4 T) : sc_ow 52 (c7_init T) := by
  unfold c7_init
  refine ow_zm hT (fun T (hT : sc_wf 11 T) => ?_)
  refine ow_R (by decide) hT (fun T (hT : sc_wf 11 T) => ?_)
  refine ow_z hT (fun T (hT : sc_wf 12 T) => ?_)
  refine ow_R (by decide) hT (fun T (hT : sc_wf 12 T) => ?_)
  refine ow_zm hT (fun T (hT : sc_wf 17 T) => ?_)
  refine ow_R (by decide) hT (fun T (hT : sc_wf 17 T) => ?_)
  refine ow_z hT (fun T (hT : sc_wf 18 T) => ?_)
  refine ow_R (by decide) hT (fun T (hT : sc_wf 18 T) => ?_)
  refine ow_z hT (fun T (hT : sc_wf 19 T) => ?_)
  refine ow_c (w2_init T hT) (fun T (hT : sc_wf 45 T) => ?_)
  refine ow_R (by decide) hT (fun T (hT : sc_wf 45 T) => ?_)
  refine ow_if ?_
  refine ow_if ?_
  refine ow_R (by decide) hT (fun T (hT : sc_wf 45 T) => ?_)
  refine ow_if ?_
  refine ow_if ?_
  refine ow_R (by decide) hT (fun T (hT : sc_wf 45 T) => ?_)
  refine ow_if ?_
  refine ow_if ?_
  refine ow_R (by decide) hT (fun T (hT : sc_wf 45 T) => ?_)
  refine ow_z hT (fun T (hT : sc_wf 46 T) => ?_)
  refine ow_R (by decide) hT (fun T (hT : sc_wf 46 T) => ?_)
  refine ow_z hT (fun T (hT : sc_wf 47 T) => ?_)
  refine ow_c (w4_init T hT) (fun T (hT : sc_wf 48 T) => ?_)
  refine ow_R (by decide) hT (fun T (hT : sc_wf 48 T) => ?_)
  refine ow_z hT (fun T (hT : sc_wf 49 T) => ?_)
  refine ow_c (w5_init T hT) (fun T (hT : sc_wf 51 T) => ?_)
  refine ow_R (by decide) hT (fun T (hT : sc_wf 51 T) => ?_)
  refine ow_I hT (fun T (hT : sc_wf 51 T) => ?_)
  refine ow_L hT (fun T (hT : sc_wf 51 T) => ?_)
  refine ow_L hT (fun T (hT : sc_wf 51 T) => ?_)
  refine ow_I hT (fun T (hT : sc_wf 51 T) => ?_)
  refine ow_z hT (fun T (hT : sc_wf 52 T) => ?_)
  refine ow_R (by decide) hT (fun T (hT : sc_wf 52 T) => ?_)
  refine ow_if ?_
  refine ow_c (wA_fill 11 6 (-1) T hT) (fun T (hT : sc_wf 52 T) => ?_)
  refine ow_if ?_
  refine ow_c (wA_fill 17 4 (-1) T hT) (fun T (hT : sc_wf 52 T) => ?_)
  exact ow_r hT
set_option maxHeartbeats 4000000 in
set_option maxRecDepth 20000 in
theorem s7_init (n : Nat) (T : sc_t) (hT : sc_wf 4 T) : sm_P (sc_j (sc_sh n 52)) k7_init [.ref 3] (sc_sh n 4, T) (c7_init T) := by
  show sm_S (sc_j (sc_sh n 52)) k7_init 0 0 0 [some (.ref 3)] [] (sc_sh n 4, T) (c7_init T)
  unfold c7_init
  refine sd_aload_n (pc := 0) d7_init_0 rfl ?_
  refine sd_obj (pc := 1) 1 mb7_1 mo.1 mo.2 (Nat.le_of_ble_eq_true rfl) (Nat.le_of_ble_eq_true rfl) d7_init_1 ?_
  refine sd_aload_n (pc := 4) d7_init_4 rfl ?_
  refine sd_bipush (pc := 5) 6 d7_init_5 (by decide) ?_
  refine sd_bipush (pc := 7) 40 d7_init_7 (by decide) ?_
  refine sc_mna (ty := .int) (pc := 9) 4 0 6 40 9 (Or.inl rfl) (fun _ => rfl) (fun _ => rfl) cx7_9 ac_int (by decide) (by decide) (by decide) (by decide) (by decide) (by decide) (by decide) (Nat.le_of_ble_eq_true rfl) hT rfl (by decide) (Nat.le_of_ble_eq_true rfl) (Nat.le_of_ble_eq_true rfl) d7_init_9 (fun T (hT : sc_wf 11 T) => ?_)
  refine sd_cast (M' := (sc_sh n 11, T)) (st' := [.ref 4, .ref 3]) (cs' := 7) (sl' := 246) rfl rfl rfl rfl ?_
  refine sc_putR (pc := 13) (a := 3) (ci := 6) (i := 0) (b := 4) rfl (by decide) rfl (fun _ => ⟨rfl, rfl⟩) (Nat.le_of_ble_eq_true rfl) fl7_11 (Or.inr ⟨rfl, rfl, rfl⟩) hT d7_init_13 (fun T (hT : sc_wf 11 T) => ?_)
  refine sd_aload_n (pc := 16) d7_init_16 rfl ?_
  refine sd_bipush (pc := 17) 6 d7_init_17 (by decide) ?_
  refine sc_newa (atype := .int) (ty := .int) (pc := 19) 0 6 rfl (fun _ => rfl) (Or.inl rfl) ac_int (by decide) (by decide) (by decide) (Nat.le_of_ble_eq_true rfl) hT rfl (by decide) (Nat.le_of_ble_eq_true rfl) (Nat.le_of_ble_eq_true rfl) d7_init_19 (fun T (hT : sc_wf 12 T) => ?_)
  refine sd_cast (M' := (sc_sh n 12, T)) (st' := [.ref 11, .ref 3]) (cs' := 8) (sl' := 252) rfl rfl rfl rfl ?_
  refine sc_putR (pc := 21) (a := 3) (ci := 6) (i := 1) (b := 11) rfl (by decide) rfl (fun _ => ⟨rfl, rfl⟩) (Nat.le_of_ble_eq_true rfl) fl7_14 (Or.inr ⟨rfl, rfl, rfl⟩) hT d7_init_21 (fun T (hT : sc_wf 12 T) => ?_)
  refine sd_aload_n (pc := 24) d7_init_24 rfl ?_
  refine sd_iconst (pc := 25) 4 d7_init_25 (by decide) ?_
  refine sd_bipush (pc := 26) 80 d7_init_26 (by decide) ?_
  refine sc_mna (ty := .byte) (pc := 28) 5 2 4 80 18 (Or.inr rfl) (fun _ => rfl) (fun _ => rfl) cx7_18 ac_byte (by decide) (by decide) (by decide) (by decide) (by decide) (by decide) (by decide) (Nat.le_of_ble_eq_true rfl) hT rfl (by decide) (Nat.le_of_ble_eq_true rfl) (Nat.le_of_ble_eq_true rfl) d7_init_28 (fun T (hT : sc_wf 17 T) => ?_)
  refine sd_cast (M' := (sc_sh n 17, T)) (st' := [.ref 12, .ref 3]) (cs' := 13) (sl' := 576) rfl rfl rfl rfl ?_
  refine sc_putR (pc := 32) (a := 3) (ci := 6) (i := 2) (b := 12) rfl (by decide) rfl (fun _ => ⟨rfl, rfl⟩) (Nat.le_of_ble_eq_true rfl) fl7_20 (Or.inr ⟨rfl, rfl, rfl⟩) hT d7_init_32 (fun T (hT : sc_wf 17 T) => ?_)
  refine sd_aload_n (pc := 35) d7_init_35 rfl ?_
  refine sd_iconst (pc := 36) 4 d7_init_36 (by decide) ?_
  refine sc_newa (atype := .int) (ty := .int) (pc := 37) 0 4 rfl (fun _ => rfl) (Or.inl rfl) ac_int (by decide) (by decide) (by decide) (Nat.le_of_ble_eq_true rfl) hT rfl (by decide) (Nat.le_of_ble_eq_true rfl) (Nat.le_of_ble_eq_true rfl) d7_init_37 (fun T (hT : sc_wf 18 T) => ?_)
  refine sd_cast (M' := (sc_sh n 18, T)) (st' := [.ref 17, .ref 3]) (cs' := 14) (sl' := 580) rfl rfl rfl rfl ?_
  refine sc_putR (pc := 39) (a := 3) (ci := 6) (i := 3) (b := 17) rfl (by decide) rfl (fun _ => ⟨rfl, rfl⟩) (Nat.le_of_ble_eq_true rfl) fl7_23 (Or.inr ⟨rfl, rfl, rfl⟩) hT d7_init_39 (fun T (hT : sc_wf 18 T) => ?_)
  refine sd_aload_n (pc := 42) d7_init_42 rfl ?_
  refine sc_new (pc := 43) 26 1 (by decide) (by decide) cx7_26 ci2.1 ci2.2 (Nat.le_of_ble_eq_true rfl) hT rfl (by decide) (Nat.le_of_ble_eq_true rfl) (Nat.le_of_ble_eq_true rfl) d7_init_43 (fun T (hT : sc_wf 19 T) => ?_)
  refine sd_cast (M' := (sc_sh n 19, T)) (st' := [.ref 18, .ref 3]) (cs' := 15) (sl' := 589) rfl rfl rfl rfl ?_
  refine sd_dup (pc := 46) d7_init_46 rfl ?_
  refine sc_cIN (pc := 47) (b := 18) (k2 := k2_init) (s2 := sc_sh n 45) 28 "TwoFliers" d7_init_47 ml7_28 mi2_init rfl me2_init rfl ⟨(Nat.le_of_ble_eq_true rfl), (Nat.le_of_ble_eq_true rfl)⟩ (Nat.le_of_ble_eq_true rfl) (Nat.le_of_ble_eq_true rfl) (by decide) (Nat.le_of_ble_eq_true rfl) (Nat.le_of_ble_eq_true rfl) (Nat.le_of_ble_eq_true rfl) (Nat.le_of_ble_eq_true rfl) rfl (s2_init n T hT) (w2_init T hT) (fun T (hT : sc_wf 45 T) => ?_)
  refine sd_cast (M' := (sc_sh n 45, T)) (st' := [.ref 18, .ref 3]) (cs' := 41) (sl' := 1530) rfl rfl rfl rfl ?_
  refine sc_putR (pc := 50) (a := 3) (ci := 6) (i := 4) (b := 18) rfl (by decide) rfl (fun _ => ⟨rfl, rfl⟩) (Nat.le_of_ble_eq_true rfl) fl7_29 (Or.inr ⟨rfl, rfl, rfl⟩) hT d7_init_50 (fun T (hT : sc_wf 45 T) => ?_)
  refine sd_aload_n (pc := 53) d7_init_53 rfl ?_
  refine sd_aload_n (pc := 54) d7_init_54 rfl ?_
  refine sc_getR (pc := 55) (a := 3) (ci := 6) (i := 4) 18 rfl (by decide) rfl fl7_29 d7_init_55 ?_
  refine sc_getR (pc := 58) (a := 18) (ci := 1) (i := 0) 19 rfl (by decide) rfl fl7_33 d7_init_58 ?_
  refine sc_putR (pc := 61) (a := 3) (ci := 6) (i := 5) (b := 19) rfl (by decide) rfl (fun _ => ⟨rfl, rfl⟩) (Nat.le_of_ble_eq_true rfl) fl7_37 (Or.inr ⟨rfl, rfl, rfl⟩) hT d7_init_61 (fun T (hT : sc_wf 45 T) => ?_)
  refine sd_aload_n (pc := 64) d7_init_64 rfl ?_
  refine sd_aload_n (pc := 65) d7_init_65 rfl ?_
  refine sc_getR (pc := 66) (a := 3) (ci := 6) (i := 4) 18 rfl (by decide) rfl fl7_29 d7_init_66 ?_
  refine sc_getR (pc := 69) (a := 18) (ci := 1) (i := 1) 22 rfl (by decide) rfl fl7_38 d7_init_69 ?_
  refine sc_putR (pc := 72) (a := 3) (ci := 6) (i := 6) (b := 22) rfl (by decide) rfl (fun _ => ⟨rfl, rfl⟩) (Nat.le_of_ble_eq_true rfl) fl7_42 (Or.inr ⟨rfl, rfl, rfl⟩) hT d7_init_72 (fun T (hT : sc_wf 45 T) => ?_)
  refine sd_aload_n (pc := 75) d7_init_75 rfl ?_
  refine sd_aload_n (pc := 76) d7_init_76 rfl ?_
  refine sc_getR (pc := 77) (a := 3) (ci := 6) (i := 4) 18 rfl (by decide) rfl fl7_29 d7_init_77 ?_
  refine sc_getR (pc := 80) (a := 18) (ci := 1) (i := 2) 36 rfl (by decide) rfl fl7_43 d7_init_80 ?_
  refine sc_putR (pc := 83) (a := 3) (ci := 6) (i := 7) (b := 36) rfl (by decide) rfl (fun _ => ⟨rfl, rfl⟩) (Nat.le_of_ble_eq_true rfl) fl7_46 (Or.inr ⟨rfl, rfl, rfl⟩) hT d7_init_83 (fun T (hT : sc_wf 45 T) => ?_)
  refine sd_aload_n (pc := 86) d7_init_86 rfl ?_
  refine sd_iconst (pc := 87) 3 d7_init_87 (by decide) ?_
  refine sc_newa (atype := .boolean) (ty := .boolean) (pc := 88) 3 3 rfl (fun _ => rfl) (Or.inr (Or.inr rfl)) ac_boolean (by decide) (by decide) (by decide) (Nat.le_of_ble_eq_true rfl) hT rfl (by decide) (Nat.le_of_ble_eq_true rfl) (Nat.le_of_ble_eq_true rfl) d7_init_88 (fun T (hT : sc_wf 46 T) => ?_)
  refine sd_cast (M' := (sc_sh n 46, T)) (st' := [.ref 45, .ref 3]) (cs' := 42) (sl' := 1533) rfl rfl rfl rfl ?_
  refine sc_putR (pc := 90) (a := 3) (ci := 6) (i := 8) (b := 45) rfl (by decide) rfl (fun _ => ⟨rfl, rfl⟩) (Nat.le_of_ble_eq_true rfl) fl7_47 (Or.inr ⟨rfl, rfl, rfl⟩) hT d7_init_90 (fun T (hT : sc_wf 46 T) => ?_)
  refine sd_aload_n (pc := 93) d7_init_93 rfl ?_
  refine sc_new (pc := 94) 51 3 (by decide) (by decide) cx7_51 ci4.1 ci4.2 (Nat.le_of_ble_eq_true rfl) hT rfl (by decide) (Nat.le_of_ble_eq_true rfl) (Nat.le_of_ble_eq_true rfl) d7_init_94 (fun T (hT : sc_wf 47 T) => ?_)
  refine sd_cast (M' := (sc_sh n 47, T)) (st' := [.ref 46, .ref 3]) (cs' := 43) (sl' := 1539) rfl rfl rfl rfl ?_
  refine sd_dup (pc := 97) d7_init_97 rfl ?_
  refine sc_cIN (pc := 98) (b := 46) (k2 := k4_init) (s2 := sc_sh n 48) 53 "TwoFliers" d7_init_98 ml7_53 mi4_init rfl me4_init rfl ⟨(Nat.le_of_ble_eq_true rfl), (Nat.le_of_ble_eq_true rfl)⟩ (Nat.le_of_ble_eq_true rfl) (Nat.le_of_ble_eq_true rfl) (by decide) (Nat.le_of_ble_eq_true rfl) (Nat.le_of_ble_eq_true rfl) (Nat.le_of_ble_eq_true rfl) (Nat.le_of_ble_eq_true rfl) rfl (s4_init n T hT) (w4_init T hT) (fun T (hT : sc_wf 48 T) => ?_)
  refine sd_cast (M' := (sc_sh n 48, T)) (st' := [.ref 46, .ref 3]) (cs' := 44) (sl' := 1659) rfl rfl rfl rfl ?_
  refine sc_putR (pc := 101) (a := 3) (ci := 6) (i := 9) (b := 46) rfl (by decide) rfl (fun _ => ⟨rfl, rfl⟩) (Nat.le_of_ble_eq_true rfl) fl7_54 (Or.inr ⟨rfl, rfl, rfl⟩) hT d7_init_101 (fun T (hT : sc_wf 48 T) => ?_)
  refine sd_aload_n (pc := 104) d7_init_104 rfl ?_
  refine sc_new (pc := 105) 58 4 (by decide) (by decide) cx7_58 ci5.1 ci5.2 (Nat.le_of_ble_eq_true rfl) hT rfl (by decide) (Nat.le_of_ble_eq_true rfl) (Nat.le_of_ble_eq_true rfl) d7_init_105 (fun T (hT : sc_wf 49 T) => ?_)
  refine sd_cast (M' := (sc_sh n 49, T)) (st' := [.ref 48, .ref 3]) (cs' := 45) (sl' := 1663) rfl rfl rfl rfl ?_
  refine sd_dup (pc := 108) d7_init_108 rfl ?_
  refine sc_cIN (pc := 109) (b := 48) (k2 := k5_init) (s2 := sc_sh n 51) 60 "TwoFliers" d7_init_109 ml7_60 mi5_init rfl me5_init rfl ⟨(Nat.le_of_ble_eq_true rfl), (Nat.le_of_ble_eq_true rfl)⟩ (Nat.le_of_ble_eq_true rfl) (Nat.le_of_ble_eq_true rfl) (by decide) (Nat.le_of_ble_eq_true rfl) (Nat.le_of_ble_eq_true rfl) (Nat.le_of_ble_eq_true rfl) (Nat.le_of_ble_eq_true rfl) rfl (s5_init n T hT) (w5_init T hT) (fun T (hT : sc_wf 51 T) => ?_)
  refine sd_cast (M' := (sc_sh n 51, T)) (st' := [.ref 48, .ref 3]) (cs' := 47) (sl' := 1673) rfl rfl rfl rfl ?_
  refine sc_putR (pc := 112) (a := 3) (ci := 6) (i := 10) (b := 48) rfl (by decide) rfl (fun _ => ⟨rfl, rfl⟩) (Nat.le_of_ble_eq_true rfl) fl7_61 (Or.inr ⟨rfl, rfl, rfl⟩) hT d7_init_112 (fun T (hT : sc_wf 51 T) => ?_)
  refine sd_aload_n (pc := 115) d7_init_115 rfl ?_
  refine sd_iconst (pc := 116) 0 d7_init_116 (by decide) ?_
  refine sc_putI (pc := 117) (a := 3) (ci := 6) (i := 11) rfl (by decide) (Or.inl rfl) fl7_65 (Or.inl rfl) hT d7_init_117 (fun T (hT : sc_wf 51 T) => ?_)
  refine sd_aload_n (pc := 120) d7_init_120 rfl ?_
  refine sd_lconst (pc := 121) 0 d7_init_121 rfl ?_
  refine sc_putL (pc := 122) (a := 3) (ci := 6) (i := 12) rfl (by decide) rfl fl7_69 rfl hT d7_init_122 (fun T (hT : sc_wf 51 T) => ?_)
  refine sd_aload_n (pc := 125) d7_init_125 rfl ?_
  refine sd_lconst (pc := 126) 1 d7_init_126 rfl ?_
  refine sc_putL (pc := 127) (a := 3) (ci := 6) (i := 13) rfl (by decide) rfl fl7_73 rfl hT d7_init_127 (fun T (hT : sc_wf 51 T) => ?_)
  refine sd_aload_n (pc := 130) d7_init_130 rfl ?_
  refine sd_iconst (pc := 131) 0 d7_init_131 (by decide) ?_
  refine sc_putI (pc := 132) (a := 3) (ci := 6) (i := 14) rfl (by decide) (Or.inl rfl) fl7_76 (Or.inl rfl) hT d7_init_132 (fun T (hT : sc_wf 51 T) => ?_)
  refine sd_aload_n (pc := 135) d7_init_135 rfl ?_
  refine sd_bipush (pc := 136) 6 d7_init_136 (by decide) ?_
  refine sc_newa (atype := .int) (ty := .int) (pc := 138) 0 6 rfl (fun _ => rfl) (Or.inl rfl) ac_int (by decide) (by decide) (by decide) (Nat.le_of_ble_eq_true rfl) hT rfl (by decide) (Nat.le_of_ble_eq_true rfl) (Nat.le_of_ble_eq_true rfl) d7_init_138 (fun T (hT : sc_wf 52 T) => ?_)
  refine sd_cast (M' := (sc_sh n 52, T)) (st' := [.ref 51, .ref 3]) (cs' := 48) (sl' := 1679) rfl rfl rfl rfl ?_
  refine sc_putR (pc := 140) (a := 3) (ci := 6) (i := 15) (b := 51) rfl (by decide) rfl (fun _ => ⟨rfl, rfl⟩) (Nat.le_of_ble_eq_true rfl) fl7_79 (Or.inr ⟨rfl, rfl, rfl⟩) hT d7_init_140 (fun T (hT : sc_wf 52 T) => ?_)
  refine sd_aload_n (pc := 143) d7_init_143 rfl ?_
  refine sc_getR (pc := 144) (a := 3) (ci := 6) (i := 1) 11 rfl (by decide) rfl fl7_14 d7_init_144 ?_
  refine sd_iconst (pc := 147) (-1) d7_init_147 (by decide) ?_
  refine sd_cS (j2 := sc_j (sc_sh n 52)) (k2 := kA_fillI) (As := [.ref 11, .int (-1)]) (rest := []) (pc := 148) 82 d7_init_148 ml7_82 msA_fillI meA_fillI ⟨rfl, rfl⟩ ⟨(Nat.le_of_ble_eq_true rfl), (Nat.le_of_ble_eq_true rfl)⟩ (Nat.le_of_ble_eq_true rfl) (Nat.le_of_ble_eq_true rfl) (fun _ => rfl) (fun _ _ => rfl) (fun _ => rfl) (Nat.le_of_ble_eq_true rfl) (Nat.le_of_ble_eq_true rfl) rfl (sA_fill 11 6 (-1) rfl (by decide) T hT) (fun T hT0 => ?_)
  have hT : sc_wf 52 T := wA_fill 11 6 (-1) _ hT T hT0
  refine sd_cast (M' := (sc_sh n 52, T)) (st' := []) (cs' := 48) (sl' := 1679) rfl rfl rfl rfl ?_
  refine sd_aload_n (pc := 151) d7_init_151 rfl ?_
  refine sc_getR (pc := 152) (a := 3) (ci := 6) (i := 3) 17 rfl (by decide) rfl fl7_23 d7_init_152 ?_
  refine sd_iconst (pc := 155) (-1) d7_init_155 (by decide) ?_
  refine sd_cS (j2 := sc_j (sc_sh n 52)) (k2 := kA_fillI) (As := [.ref 17, .int (-1)]) (rest := []) (pc := 156) 82 d7_init_156 ml7_82 msA_fillI meA_fillI ⟨rfl, rfl⟩ ⟨(Nat.le_of_ble_eq_true rfl), (Nat.le_of_ble_eq_true rfl)⟩ (Nat.le_of_ble_eq_true rfl) (Nat.le_of_ble_eq_true rfl) (fun _ => rfl) (fun _ _ => rfl) (fun _ => rfl) (Nat.le_of_ble_eq_true rfl) (Nat.le_of_ble_eq_true rfl) rfl (sA_fill 17 4 (-1) rfl (by decide) T hT) (fun T hT0 => ?_)
  have hT : sc_wf 52 T := wA_fill 17 4 (-1) _ hT T hT0
  refine sd_cast (M' := (sc_sh n 52, T)) (st' := []) (cs' := 48) (sl' := 1679) rfl rfl rfl rfl ?_
  exact sc_vret (pc := 159) d7_init_159 (Nat.le_of_ble_eq_true rfl) (Nat.le_of_ble_eq_true rfl)
def c8_init (T : sc_t) : Option sc_t :=
  sm_n (sc_z T 53) fun T =>
  sm_n (sc_wR T 52 1 (some 53)) fun T =>
  sm_n (sc_wL T 52 4 1) fun T =>
  sm_n (sc_z T 54) fun T =>
  sm_n (sc_wR T 52 5 (some 54)) fun T =>
  sm_n (sc_z T 55) fun T =>
  sm_n (sc_wR T 52 6 (some 55)) fun T =>
  sm_n (sc_z T 56) fun T =>
  sm_n (sc_wR T 52 7 (some 56)) fun T =>
  sm_n (sc_z T 57) fun T =>
  sm_n (sc_wR T 52 8 (some 57)) fun T =>
  sm_n (sc_z T 58) fun T =>
  sm_n (sc_wR T 52 9 (some 58)) fun T =>
  sm_n (sc_z T 59) fun T =>
  sm_n (sc_wR T 52 10 (some 59)) fun T =>
  sm_n (sc_z T 60) fun T =>
  sm_n (sc_wR T 52 11 (some 60)) fun T =>
  sm_n (sc_z T 61) fun T =>
  sm_n (sc_wR T 52 12 (some 61)) fun T =>
  sm_n (sc_z T 62) fun T =>
  sm_n (sc_wR T 52 13 (some 62)) fun T =>
  sm_n (sc_z T 63) fun T =>
  sm_n (sc_wR T 52 18 (some 63)) fun T =>
  sm_n (sc_wI T 52 19 (-9)) fun T =>
  sm_n (sc_z T 64) fun T =>
  sm_n (sc_wR T 52 20 (some 64)) fun T =>
  sm_n (sc_z T 65) fun T =>
  sm_n (sc_wR T 52 21 (some 65)) fun T =>
  sm_n (sc_z T 66) fun T =>
  sm_n (sc_wR T 52 22 (some 66)) fun T =>
  sm_n (sc_z T 67) fun T =>
  sm_n (sc_wR T 52 24 (some 67)) fun T =>
  sm_n (sc_z T 68) fun T =>
  sm_n (sc_wR T 52 25 (some 68)) fun T =>
  sm_n (sc_z T 69) fun T =>
  sm_n (sc_wR T 52 28 (some 69)) fun T =>
  if T.2.2 52 5 = some 54 then (
  sm_n (sc_wI T 54 (0 : Int32).toNatClampNeg (-9)) fun T =>
  if T.2.2 52 5 = some 54 then (
  sm_n (sc_wI T 54 (1 : Int32).toNatClampNeg (-9)) fun T =>
  if T.2.2 52 5 = some 54 then (
  sm_n (sc_wI T 54 (2 : Int32).toNatClampNeg (-9)) fun T =>
  if T.2.2 52 5 = some 54 then (
  sm_n (sc_wI T 54 (3 : Int32).toNatClampNeg (-9)) fun T =>
  if T.2.2 52 5 = some 54 then (
  sm_n (sc_wI T 54 (4 : Int32).toNatClampNeg (-9)) fun T =>
  if T.2.2 52 5 = some 54 then (
  sm_n (sc_wI T 54 (5 : Int32).toNatClampNeg (-9)) fun T =>
  if T.2.2 52 8 = some 57 then (
  sm_n (sc_wI T 57 (0 : Int32).toNatClampNeg (-9)) fun T =>
  if T.2.2 52 8 = some 57 then (
  sm_n (sc_wI T 57 (1 : Int32).toNatClampNeg (-9)) fun T =>
  if T.2.2 52 8 = some 57 then (
  sm_n (sc_wI T 57 (2 : Int32).toNatClampNeg (-9)) fun T =>
  if T.2.2 52 8 = some 57 then (
  sm_n (sc_wI T 57 (3 : Int32).toNatClampNeg (-9)) fun T =>
  if T.2.2 52 10 = some 59 then (
  sm_n (sc_wI T 59 (0 : Int32).toNatClampNeg 0) fun T =>
  if T.2.2 52 10 = some 59 then (
  sm_n (sc_wI T 59 (1 : Int32).toNatClampNeg 0) fun T =>
  if T.2.2 52 10 = some 59 then (
  sm_n (sc_wI T 59 (2 : Int32).toNatClampNeg (-9)) fun T =>
  if T.2.2 52 10 = some 59 then (
  sm_n (sc_wI T 59 (3 : Int32).toNatClampNeg (-9)) fun T =>
  if T.2.2 52 10 = some 59 then (
  sm_n (sc_wI T 59 (4 : Int32).toNatClampNeg (-9)) fun T =>
  if T.2.2 52 10 = some 59 then (
  sm_n (sc_wI T 59 (5 : Int32).toNatClampNeg (-9)) fun T =>
  if T.2.2 52 10 = some 59 then (
  sm_n (sc_wI T 59 (6 : Int32).toNatClampNeg (-9)) fun T =>
  if T.2.2 52 10 = some 59 then (
  sm_n (sc_wI T 59 (7 : Int32).toNatClampNeg (-9)) fun T =>
  if T.2.2 52 10 = some 59 then (
  sm_n (sc_wI T 59 (8 : Int32).toNatClampNeg 1) fun T =>
  if T.2.2 52 10 = some 59 then (
  sm_n (sc_wI T 59 (9 : Int32).toNatClampNeg (-9)) fun T =>
  if T.2.2 52 10 = some 59 then (
  sm_n (sc_wI T 59 (10 : Int32).toNatClampNeg (-9)) fun T =>
  if T.2.2 52 10 = some 59 then (
  sm_n (sc_wI T 59 (11 : Int32).toNatClampNeg (-9)) fun T =>
  if T.2.2 52 10 = some 59 then (
  sm_n (sc_wI T 59 (12 : Int32).toNatClampNeg (-9)) fun T =>
  if T.2.2 52 10 = some 59 then (
  sm_n (sc_wI T 59 (13 : Int32).toNatClampNeg (-9)) fun T =>
  if T.2.2 52 10 = some 59 then (
  sm_n (sc_wI T 59 (14 : Int32).toNatClampNeg (-9)) fun T =>
  some T) else none) else none) else none) else none) else none) else none) else none) else none) else none) else none) else none) else none) else none) else none) else none) else none) else none) else none) else none) else none) else none) else none) else none) else none) else none
set_option maxHeartbeats 4000000 in
set_option maxRecDepth 20000 in
theorem w8_init (T : sc_t) (hT : sc_wf 53 T) : sc_ow 70 (c8_init T) := by
  unfold c8_init
  refine ow_z hT (fun T (hT : sc_wf 54 T) => ?_)
  refine ow_R (by decide) hT (fun T (hT : sc_wf 54 T) => ?_)
  refine ow_L hT (fun T (hT : sc_wf 54 T) => ?_)
  refine ow_z hT (fun T (hT : sc_wf 55 T) => ?_)
  refine ow_R (by decide) hT (fun T (hT : sc_wf 55 T) => ?_)
  refine ow_z hT (fun T (hT : sc_wf 56 T) => ?_)
  refine ow_R (by decide) hT (fun T (hT : sc_wf 56 T) => ?_)
  refine ow_z hT (fun T (hT : sc_wf 57 T) => ?_)
  refine ow_R (by decide) hT (fun T (hT : sc_wf 57 T) => ?_)
  refine ow_z hT (fun T (hT : sc_wf 58 T) => ?_)
  refine ow_R (by decide) hT (fun T (hT : sc_wf 58 T) => ?_)
  refine ow_z hT (fun T (hT : sc_wf 59 T) => ?_)
  refine ow_R (by decide) hT (fun T (hT : sc_wf 59 T) => ?_)
  refine ow_z hT (fun T (hT : sc_wf 60 T) => ?_)
  refine ow_R (by decide) hT (fun T (hT : sc_wf 60 T) => ?_)
  refine ow_z hT (fun T (hT : sc_wf 61 T) => ?_)
  refine ow_R (by decide) hT (fun T (hT : sc_wf 61 T) => ?_)
  refine ow_z hT (fun T (hT : sc_wf 62 T) => ?_)
  refine ow_R (by decide) hT (fun T (hT : sc_wf 62 T) => ?_)
  refine ow_z hT (fun T (hT : sc_wf 63 T) => ?_)
  refine ow_R (by decide) hT (fun T (hT : sc_wf 63 T) => ?_)
  refine ow_z hT (fun T (hT : sc_wf 64 T) => ?_)
  refine ow_R (by decide) hT (fun T (hT : sc_wf 64 T) => ?_)
  refine ow_I hT (fun T (hT : sc_wf 64 T) => ?_)
  refine ow_z hT (fun T (hT : sc_wf 65 T) => ?_)
  refine ow_R (by decide) hT (fun T (hT : sc_wf 65 T) => ?_)
  refine ow_z hT (fun T (hT : sc_wf 66 T) => ?_)
  refine ow_R (by decide) hT (fun T (hT : sc_wf 66 T) => ?_)
  refine ow_z hT (fun T (hT : sc_wf 67 T) => ?_)
  refine ow_R (by decide) hT (fun T (hT : sc_wf 67 T) => ?_)
  refine ow_z hT (fun T (hT : sc_wf 68 T) => ?_)
  refine ow_R (by decide) hT (fun T (hT : sc_wf 68 T) => ?_)
  refine ow_z hT (fun T (hT : sc_wf 69 T) => ?_)
  refine ow_R (by decide) hT (fun T (hT : sc_wf 69 T) => ?_)
  refine ow_z hT (fun T (hT : sc_wf 70 T) => ?_)
  refine ow_R (by decide) hT (fun T (hT : sc_wf 70 T) => ?_)
  refine ow_if ?_
  refine ow_I hT (fun T (hT : sc_wf 70 T) => ?_)
  refine ow_if ?_
  refine ow_I hT (fun T (hT : sc_wf 70 T) => ?_)
  refine ow_if ?_
  refine ow_I hT (fun T (hT : sc_wf 70 T) => ?_)
  refine ow_if ?_
  refine ow_I hT (fun T (hT : sc_wf 70 T) => ?_)
  refine ow_if ?_
  refine ow_I hT (fun T (hT : sc_wf 70 T) => ?_)
  refine ow_if ?_
  refine ow_I hT (fun T (hT : sc_wf 70 T) => ?_)
  refine ow_if ?_
  refine ow_I hT (fun T (hT : sc_wf 70 T) => ?_)
  refine ow_if ?_
  refine ow_I hT (fun T (hT : sc_wf 70 T) => ?_)
  refine ow_if ?_
  refine ow_I hT (fun T (hT : sc_wf 70 T) => ?_)
  refine ow_if ?_
  refine ow_I hT (fun T (hT : sc_wf 70 T) => ?_)
  refine ow_if ?_
  refine ow_I hT (fun T (hT : sc_wf 70 T) => ?_)
  refine ow_if ?_
  refine ow_I hT (fun T (hT : sc_wf 70 T) => ?_)
  refine ow_if ?_
  refine ow_I hT (fun T (hT : sc_wf 70 T) => ?_)
  refine ow_if ?_
  refine ow_I hT (fun T (hT : sc_wf 70 T) => ?_)
  refine ow_if ?_
  refine ow_I hT (fun T (hT : sc_wf 70 T) => ?_)
  refine ow_if ?_
  refine ow_I hT (fun T (hT : sc_wf 70 T) => ?_)
  refine ow_if ?_
  refine ow_I hT (fun T (hT : sc_wf 70 T) => ?_)
  refine ow_if ?_
  refine ow_I hT (fun T (hT : sc_wf 70 T) => ?_)
  refine ow_if ?_
  refine ow_I hT (fun T (hT : sc_wf 70 T) => ?_)
  refine ow_if ?_
  refine ow_I hT (fun T (hT : sc_wf 70 T) => ?_)
  refine ow_if ?_
  refine ow_I hT (fun T (hT : sc_wf 70 T) => ?_)
  refine ow_if ?_
  refine ow_I hT (fun T (hT : sc_wf 70 T) => ?_)
  refine ow_if ?_
  refine ow_I hT (fun T (hT : sc_wf 70 T) => ?_)
  refine ow_if ?_
  refine ow_I hT (fun T (hT : sc_wf 70 T) => ?_)
  refine ow_if ?_
  refine ow_I hT (fun T (hT : sc_wf 70 T) => ?_)
  exact ow_r hT
set_option maxHeartbeats 4000000 in
set_option maxRecDepth 20000 in
theorem s8_init (n : Nat) (T : sc_t) (hT : sc_wf 53 T) : sm_P (sc_j (sc_sh n 70)) k8_init [.ref 52] (sc_sh n 53, T) (c8_init T) := by
  show sm_S (sc_j (sc_sh n 70)) k8_init 0 0 0 [some (.ref 52), none] [] (sc_sh n 53, T) (c8_init T)
  unfold c8_init
  refine sd_aload_n (pc := 0) d8_init_0 rfl ?_
  refine sd_obj (pc := 1) 1 mb8_1 mo.1 mo.2 (Nat.le_of_ble_eq_true rfl) (Nat.le_of_ble_eq_true rfl) d8_init_1 ?_
  refine sd_aload_n (pc := 4) d8_init_4 rfl ?_
  refine sd_bipush (pc := 5) 6 d8_init_5 (by decide) ?_
  refine sc_newa (atype := .int) (ty := .int) (pc := 7) 0 6 rfl (fun _ => rfl) (Or.inl rfl) ac_int (by decide) (by decide) (by decide) (Nat.le_of_ble_eq_true rfl) hT rfl (by decide) (Nat.le_of_ble_eq_true rfl) (Nat.le_of_ble_eq_true rfl) d8_init_7 (fun T (hT : sc_wf 54 T) => ?_)
  refine sd_cast (M' := (sc_sh n 54, T)) (st' := [.ref 53, .ref 52]) (cs' := 1) (sl' := 6) rfl rfl rfl rfl ?_
  refine sc_putR (pc := 9) (a := 52) (ci := 7) (i := 1) (b := 53) rfl (by decide) rfl (fun _ => ⟨rfl, rfl⟩) (Nat.le_of_ble_eq_true rfl) fl8_7 (Or.inr ⟨rfl, rfl, rfl⟩) hT d8_init_9 (fun T (hT : sc_wf 54 T) => ?_)
  refine sd_aload_n (pc := 12) d8_init_12 rfl ?_
  refine sd_lconst (pc := 13) 1 d8_init_13 rfl ?_
  refine sc_putL (pc := 14) (a := 52) (ci := 7) (i := 4) rfl (by decide) rfl fl8_13 rfl hT d8_init_14 (fun T (hT : sc_wf 54 T) => ?_)
  refine sd_aload_n (pc := 17) d8_init_17 rfl ?_
  refine sd_bipush (pc := 18) 6 d8_init_18 (by decide) ?_
  refine sc_newa (atype := .int) (ty := .int) (pc := 20) 0 6 rfl (fun _ => rfl) (Or.inl rfl) ac_int (by decide) (by decide) (by decide) (Nat.le_of_ble_eq_true rfl) hT rfl (by decide) (Nat.le_of_ble_eq_true rfl) (Nat.le_of_ble_eq_true rfl) d8_init_20 (fun T (hT : sc_wf 55 T) => ?_)
  refine sd_cast (M' := (sc_sh n 55, T)) (st' := [.ref 54, .ref 52]) (cs' := 2) (sl' := 12) rfl rfl rfl rfl ?_
  refine sc_putR (pc := 22) (a := 52) (ci := 7) (i := 5) (b := 54) rfl (by decide) rfl (fun _ => ⟨rfl, rfl⟩) (Nat.le_of_ble_eq_true rfl) fl8_17 (Or.inr ⟨rfl, rfl, rfl⟩) hT d8_init_22 (fun T (hT : sc_wf 55 T) => ?_)
  refine sd_aload_n (pc := 25) d8_init_25 rfl ?_
  refine sd_sipush (pc := 26) 240 d8_init_26 (by decide) ?_
  refine sc_newa (atype := .int) (ty := .int) (pc := 29) 0 240 rfl (fun _ => rfl) (Or.inl rfl) ac_int (by decide) (by decide) (by decide) (Nat.le_of_ble_eq_true rfl) hT rfl (by decide) (Nat.le_of_ble_eq_true rfl) (Nat.le_of_ble_eq_true rfl) d8_init_29 (fun T (hT : sc_wf 56 T) => ?_)
  refine sd_cast (M' := (sc_sh n 56, T)) (st' := [.ref 55, .ref 52]) (cs' := 3) (sl' := 252) rfl rfl rfl rfl ?_
  refine sc_putR (pc := 31) (a := 52) (ci := 7) (i := 6) (b := 55) rfl (by decide) rfl (fun _ => ⟨rfl, rfl⟩) (Nat.le_of_ble_eq_true rfl) fl8_20 (Or.inr ⟨rfl, rfl, rfl⟩) hT d8_init_31 (fun T (hT : sc_wf 56 T) => ?_)
  refine sd_aload_n (pc := 34) d8_init_34 rfl ?_
  refine sd_bipush (pc := 35) 40 d8_init_35 (by decide) ?_
  refine sc_newa (atype := .int) (ty := .int) (pc := 37) 0 40 rfl (fun _ => rfl) (Or.inl rfl) ac_int (by decide) (by decide) (by decide) (Nat.le_of_ble_eq_true rfl) hT rfl (by decide) (Nat.le_of_ble_eq_true rfl) (Nat.le_of_ble_eq_true rfl) d8_init_37 (fun T (hT : sc_wf 57 T) => ?_)
  refine sd_cast (M' := (sc_sh n 57, T)) (st' := [.ref 56, .ref 52]) (cs' := 4) (sl' := 292) rfl rfl rfl rfl ?_
  refine sc_putR (pc := 39) (a := 52) (ci := 7) (i := 7) (b := 56) rfl (by decide) rfl (fun _ => ⟨rfl, rfl⟩) (Nat.le_of_ble_eq_true rfl) fl8_23 (Or.inr ⟨rfl, rfl, rfl⟩) hT d8_init_39 (fun T (hT : sc_wf 57 T) => ?_)
  refine sd_aload_n (pc := 42) d8_init_42 rfl ?_
  refine sd_iconst (pc := 43) 4 d8_init_43 (by decide) ?_
  refine sc_newa (atype := .int) (ty := .int) (pc := 44) 0 4 rfl (fun _ => rfl) (Or.inl rfl) ac_int (by decide) (by decide) (by decide) (Nat.le_of_ble_eq_true rfl) hT rfl (by decide) (Nat.le_of_ble_eq_true rfl) (Nat.le_of_ble_eq_true rfl) d8_init_44 (fun T (hT : sc_wf 58 T) => ?_)
  refine sd_cast (M' := (sc_sh n 58, T)) (st' := [.ref 57, .ref 52]) (cs' := 5) (sl' := 296) rfl rfl rfl rfl ?_
  refine sc_putR (pc := 46) (a := 52) (ci := 7) (i := 8) (b := 57) rfl (by decide) rfl (fun _ => ⟨rfl, rfl⟩) (Nat.le_of_ble_eq_true rfl) fl8_26 (Or.inr ⟨rfl, rfl, rfl⟩) hT d8_init_46 (fun T (hT : sc_wf 58 T) => ?_)
  refine sd_aload_n (pc := 49) d8_init_49 rfl ?_
  refine sd_sipush (pc := 50) 320 d8_init_50 (by decide) ?_
  refine sc_newa (atype := .int) (ty := .int) (pc := 53) 0 320 rfl (fun _ => rfl) (Or.inl rfl) ac_int (by decide) (by decide) (by decide) (Nat.le_of_ble_eq_true rfl) hT rfl (by decide) (Nat.le_of_ble_eq_true rfl) (Nat.le_of_ble_eq_true rfl) d8_init_53 (fun T (hT : sc_wf 59 T) => ?_)
  refine sd_cast (M' := (sc_sh n 59, T)) (st' := [.ref 58, .ref 52]) (cs' := 6) (sl' := 616) rfl rfl rfl rfl ?_
  refine sc_putR (pc := 55) (a := 52) (ci := 7) (i := 9) (b := 58) rfl (by decide) rfl (fun _ => ⟨rfl, rfl⟩) (Nat.le_of_ble_eq_true rfl) fl8_29 (Or.inr ⟨rfl, rfl, rfl⟩) hT d8_init_55 (fun T (hT : sc_wf 59 T) => ?_)
  refine sd_aload_n (pc := 58) d8_init_58 rfl ?_
  refine sd_bipush (pc := 59) 15 d8_init_59 (by decide) ?_
  refine sc_newa (atype := .int) (ty := .int) (pc := 61) 0 15 rfl (fun _ => rfl) (Or.inl rfl) ac_int (by decide) (by decide) (by decide) (Nat.le_of_ble_eq_true rfl) hT rfl (by decide) (Nat.le_of_ble_eq_true rfl) (Nat.le_of_ble_eq_true rfl) d8_init_61 (fun T (hT : sc_wf 60 T) => ?_)
  refine sd_cast (M' := (sc_sh n 60, T)) (st' := [.ref 59, .ref 52]) (cs' := 7) (sl' := 631) rfl rfl rfl rfl ?_
  refine sc_putR (pc := 63) (a := 52) (ci := 7) (i := 10) (b := 59) rfl (by decide) rfl (fun _ => ⟨rfl, rfl⟩) (Nat.le_of_ble_eq_true rfl) fl8_32 (Or.inr ⟨rfl, rfl, rfl⟩) hT d8_init_63 (fun T (hT : sc_wf 60 T) => ?_)
  refine sd_aload_n (pc := 66) d8_init_66 rfl ?_
  refine sd_iconst (pc := 67) 4 d8_init_67 (by decide) ?_
  refine sc_newa (atype := .boolean) (ty := .boolean) (pc := 68) 3 4 rfl (fun _ => rfl) (Or.inr (Or.inr rfl)) ac_boolean (by decide) (by decide) (by decide) (Nat.le_of_ble_eq_true rfl) hT rfl (by decide) (Nat.le_of_ble_eq_true rfl) (Nat.le_of_ble_eq_true rfl) d8_init_68 (fun T (hT : sc_wf 61 T) => ?_)
  refine sd_cast (M' := (sc_sh n 61, T)) (st' := [.ref 60, .ref 52]) (cs' := 8) (sl' := 635) rfl rfl rfl rfl ?_
  refine sc_putR (pc := 70) (a := 52) (ci := 7) (i := 11) (b := 60) rfl (by decide) rfl (fun _ => ⟨rfl, rfl⟩) (Nat.le_of_ble_eq_true rfl) fl8_35 (Or.inr ⟨rfl, rfl, rfl⟩) hT d8_init_70 (fun T (hT : sc_wf 61 T) => ?_)
  refine sd_aload_n (pc := 73) d8_init_73 rfl ?_
  refine sd_sipush (pc := 74) 480 d8_init_74 (by decide) ?_
  refine sc_newa (atype := .int) (ty := .int) (pc := 77) 0 480 rfl (fun _ => rfl) (Or.inl rfl) ac_int (by decide) (by decide) (by decide) (Nat.le_of_ble_eq_true rfl) hT rfl (by decide) (Nat.le_of_ble_eq_true rfl) (Nat.le_of_ble_eq_true rfl) d8_init_77 (fun T (hT : sc_wf 62 T) => ?_)
  refine sd_cast (M' := (sc_sh n 62, T)) (st' := [.ref 61, .ref 52]) (cs' := 9) (sl' := 1115) rfl rfl rfl rfl ?_
  refine sc_putR (pc := 79) (a := 52) (ci := 7) (i := 12) (b := 61) rfl (by decide) rfl (fun _ => ⟨rfl, rfl⟩) (Nat.le_of_ble_eq_true rfl) fl8_39 (Or.inr ⟨rfl, rfl, rfl⟩) hT d8_init_79 (fun T (hT : sc_wf 62 T) => ?_)
  refine sd_aload_n (pc := 82) d8_init_82 rfl ?_
  refine sd_bipush (pc := 83) 120 d8_init_83 (by decide) ?_
  refine sc_newa (atype := .int) (ty := .int) (pc := 85) 0 120 rfl (fun _ => rfl) (Or.inl rfl) ac_int (by decide) (by decide) (by decide) (Nat.le_of_ble_eq_true rfl) hT rfl (by decide) (Nat.le_of_ble_eq_true rfl) (Nat.le_of_ble_eq_true rfl) d8_init_85 (fun T (hT : sc_wf 63 T) => ?_)
  refine sd_cast (M' := (sc_sh n 63, T)) (st' := [.ref 62, .ref 52]) (cs' := 10) (sl' := 1235) rfl rfl rfl rfl ?_
  refine sc_putR (pc := 87) (a := 52) (ci := 7) (i := 13) (b := 62) rfl (by decide) rfl (fun _ => ⟨rfl, rfl⟩) (Nat.le_of_ble_eq_true rfl) fl8_42 (Or.inr ⟨rfl, rfl, rfl⟩) hT d8_init_87 (fun T (hT : sc_wf 63 T) => ?_)
  refine sd_aload_n (pc := 90) d8_init_90 rfl ?_
  refine sd_bipush (pc := 91) 60 d8_init_91 (by decide) ?_
  refine sc_newa (atype := .int) (ty := .int) (pc := 93) 0 60 rfl (fun _ => rfl) (Or.inl rfl) ac_int (by decide) (by decide) (by decide) (Nat.le_of_ble_eq_true rfl) hT rfl (by decide) (Nat.le_of_ble_eq_true rfl) (Nat.le_of_ble_eq_true rfl) d8_init_93 (fun T (hT : sc_wf 64 T) => ?_)
  refine sd_cast (M' := (sc_sh n 64, T)) (st' := [.ref 63, .ref 52]) (cs' := 11) (sl' := 1295) rfl rfl rfl rfl ?_
  refine sc_putR (pc := 95) (a := 52) (ci := 7) (i := 18) (b := 63) rfl (by decide) rfl (fun _ => ⟨rfl, rfl⟩) (Nat.le_of_ble_eq_true rfl) fl8_45 (Or.inr ⟨rfl, rfl, rfl⟩) hT d8_init_95 (fun T (hT : sc_wf 64 T) => ?_)
  refine sd_aload_n (pc := 98) d8_init_98 rfl ?_
  refine sd_bipush (pc := 99) (-9) d8_init_99 (by decide) ?_
  refine sc_putI (pc := 101) (a := 52) (ci := 7) (i := 19) rfl (by decide) (Or.inl rfl) fl8_48 (Or.inl rfl) hT d8_init_101 (fun T (hT : sc_wf 64 T) => ?_)
  refine sd_aload_n (pc := 104) d8_init_104 rfl ?_
  refine sd_sipush (pc := 105) 840 d8_init_105 (by decide) ?_
  refine sc_newa (atype := .long) (ty := .long) (pc := 108) 1 840 rfl (fun _ => rfl) (Or.inr (Or.inl rfl)) ac_long (by decide) (by decide) (by decide) (Nat.le_of_ble_eq_true rfl) hT rfl (by decide) (Nat.le_of_ble_eq_true rfl) (Nat.le_of_ble_eq_true rfl) d8_init_108 (fun T (hT : sc_wf 65 T) => ?_)
  refine sd_cast (M' := (sc_sh n 65, T)) (st' := [.ref 64, .ref 52]) (cs' := 12) (sl' := 2135) rfl rfl rfl rfl ?_
  refine sc_putR (pc := 110) (a := 52) (ci := 7) (i := 20) (b := 64) rfl (by decide) rfl (fun _ => ⟨rfl, rfl⟩) (Nat.le_of_ble_eq_true rfl) fl8_52 (Or.inr ⟨rfl, rfl, rfl⟩) hT d8_init_110 (fun T (hT : sc_wf 65 T) => ?_)
  refine sd_aload_n (pc := 113) d8_init_113 rfl ?_
  refine sd_sipush (pc := 114) 840 d8_init_114 (by decide) ?_
  refine sc_newa (atype := .long) (ty := .long) (pc := 117) 1 840 rfl (fun _ => rfl) (Or.inr (Or.inl rfl)) ac_long (by decide) (by decide) (by decide) (Nat.le_of_ble_eq_true rfl) hT rfl (by decide) (Nat.le_of_ble_eq_true rfl) (Nat.le_of_ble_eq_true rfl) d8_init_117 (fun T (hT : sc_wf 66 T) => ?_)
  refine sd_cast (M' := (sc_sh n 66, T)) (st' := [.ref 65, .ref 52]) (cs' := 13) (sl' := 2975) rfl rfl rfl rfl ?_
  refine sc_putR (pc := 119) (a := 52) (ci := 7) (i := 21) (b := 65) rfl (by decide) rfl (fun _ => ⟨rfl, rfl⟩) (Nat.le_of_ble_eq_true rfl) fl8_56 (Or.inr ⟨rfl, rfl, rfl⟩) hT d8_init_119 (fun T (hT : sc_wf 66 T) => ?_)
  refine sd_aload_n (pc := 122) d8_init_122 rfl ?_
  refine sd_bipush (pc := 123) 120 d8_init_123 (by decide) ?_
  refine sc_newa (atype := .long) (ty := .long) (pc := 125) 1 120 rfl (fun _ => rfl) (Or.inr (Or.inl rfl)) ac_long (by decide) (by decide) (by decide) (Nat.le_of_ble_eq_true rfl) hT rfl (by decide) (Nat.le_of_ble_eq_true rfl) (Nat.le_of_ble_eq_true rfl) d8_init_125 (fun T (hT : sc_wf 67 T) => ?_)
  refine sd_cast (M' := (sc_sh n 67, T)) (st' := [.ref 66, .ref 52]) (cs' := 14) (sl' := 3095) rfl rfl rfl rfl ?_
  refine sc_putR (pc := 127) (a := 52) (ci := 7) (i := 22) (b := 66) rfl (by decide) rfl (fun _ => ⟨rfl, rfl⟩) (Nat.le_of_ble_eq_true rfl) fl8_59 (Or.inr ⟨rfl, rfl, rfl⟩) hT d8_init_127 (fun T (hT : sc_wf 67 T) => ?_)
  refine sd_aload_n (pc := 130) d8_init_130 rfl ?_
  refine sd_iconst (pc := 131) 5 d8_init_131 (by decide) ?_
  refine sc_newa (atype := .int) (ty := .int) (pc := 132) 0 5 rfl (fun _ => rfl) (Or.inl rfl) ac_int (by decide) (by decide) (by decide) (Nat.le_of_ble_eq_true rfl) hT rfl (by decide) (Nat.le_of_ble_eq_true rfl) (Nat.le_of_ble_eq_true rfl) d8_init_132 (fun T (hT : sc_wf 68 T) => ?_)
  refine sd_cast (M' := (sc_sh n 68, T)) (st' := [.ref 67, .ref 52]) (cs' := 15) (sl' := 3100) rfl rfl rfl rfl ?_
  refine sc_putR (pc := 134) (a := 52) (ci := 7) (i := 24) (b := 67) rfl (by decide) rfl (fun _ => ⟨rfl, rfl⟩) (Nat.le_of_ble_eq_true rfl) fl8_62 (Or.inr ⟨rfl, rfl, rfl⟩) hT d8_init_134 (fun T (hT : sc_wf 68 T) => ?_)
  refine sd_aload_n (pc := 137) d8_init_137 rfl ?_
  refine sd_iconst (pc := 138) 5 d8_init_138 (by decide) ?_
  refine sc_newa (atype := .int) (ty := .int) (pc := 139) 0 5 rfl (fun _ => rfl) (Or.inl rfl) ac_int (by decide) (by decide) (by decide) (Nat.le_of_ble_eq_true rfl) hT rfl (by decide) (Nat.le_of_ble_eq_true rfl) (Nat.le_of_ble_eq_true rfl) d8_init_139 (fun T (hT : sc_wf 69 T) => ?_)
  refine sd_cast (M' := (sc_sh n 69, T)) (st' := [.ref 68, .ref 52]) (cs' := 16) (sl' := 3105) rfl rfl rfl rfl ?_
  refine sc_putR (pc := 141) (a := 52) (ci := 7) (i := 25) (b := 68) rfl (by decide) rfl (fun _ => ⟨rfl, rfl⟩) (Nat.le_of_ble_eq_true rfl) fl8_65 (Or.inr ⟨rfl, rfl, rfl⟩) hT d8_init_141 (fun T (hT : sc_wf 69 T) => ?_)
  refine sd_aload_n (pc := 144) d8_init_144 rfl ?_
  refine sd_bipush (pc := 145) 6 d8_init_145 (by decide) ?_
  refine sc_newa (atype := .int) (ty := .int) (pc := 147) 0 6 rfl (fun _ => rfl) (Or.inl rfl) ac_int (by decide) (by decide) (by decide) (Nat.le_of_ble_eq_true rfl) hT rfl (by decide) (Nat.le_of_ble_eq_true rfl) (Nat.le_of_ble_eq_true rfl) d8_init_147 (fun T (hT : sc_wf 70 T) => ?_)
  refine sd_cast (M' := (sc_sh n 70, T)) (st' := [.ref 69, .ref 52]) (cs' := 17) (sl' := 3111) rfl rfl rfl rfl ?_
  refine sc_putR (pc := 149) (a := 52) (ci := 7) (i := 28) (b := 69) rfl (by decide) rfl (fun _ => ⟨rfl, rfl⟩) (Nat.le_of_ble_eq_true rfl) fl8_68 (Or.inr ⟨rfl, rfl, rfl⟩) hT d8_init_149 (fun T (hT : sc_wf 70 T) => ?_)
  refine sd_iconst (pc := 152) 0 d8_init_152 (by decide) ?_
  refine sd_istore_n (lf2 := [some (.ref 52), some (.int 0)]) (pc := 153) d8_init_153 (Nat.le_of_ble_eq_true rfl) rfl ?_
  refine sd_iload_n (pc := 154) d8_init_154 rfl ?_
  refine sd_bipush (pc := 155) 6 d8_init_155 (by decide) ?_
  refine sd_brf (c := (6 : Int32) ≤ 0) (o1 := none) (by decide) (sd_ic_ge (pc := 157) 174 d8_init_157 (by decide) (fun _ => sd_none) (fun _ => ?_))
  refine sd_aload_n (pc := 160) d8_init_160 rfl ?_
  refine sc_getR (pc := 161) (a := 52) (ci := 7) (i := 5) 54 rfl (by decide) rfl fl8_17 d8_init_161 ?_
  refine sd_iload_n (pc := 164) d8_init_164 rfl ?_
  refine sd_bipush (pc := 165) (-9) d8_init_165 (by decide) ?_
  refine sc_iast (pc := 167) (a := 54) (n := 6) rfl (by decide) (by decide) hT d8_init_167 (fun T (hT : sc_wf 70 T) => ?_)
  refine sd_iinc (lf2 := [some (.ref 52), some (.int 1)]) (pc := 168) d8_init_168 (Nat.le_of_ble_eq_true rfl) rfl (show Int32.ofInt 1 = 1 by decide) (by decide) ?_
  refine sd_goto (pc := 171) 154 d8_init_171 (by decide) ?_
  refine sd_iload_n (pc := 154) d8_init_154 rfl ?_
  refine sd_bipush (pc := 155) 6 d8_init_155 (by decide) ?_
  refine sd_brf (c := (6 : Int32) ≤ 1) (o1 := none) (by decide) (sd_ic_ge (pc := 157) 174 d8_init_157 (by decide) (fun _ => sd_none) (fun _ => ?_))
  refine sd_aload_n (pc := 160) d8_init_160 rfl ?_
  refine sc_getR (pc := 161) (a := 52) (ci := 7) (i := 5) 54 rfl (by decide) rfl fl8_17 d8_init_161 ?_
  refine sd_iload_n (pc := 164) d8_init_164 rfl ?_
  refine sd_bipush (pc := 165) (-9) d8_init_165 (by decide) ?_
  refine sc_iast (pc := 167) (a := 54) (n := 6) rfl (by decide) (by decide) hT d8_init_167 (fun T (hT : sc_wf 70 T) => ?_)
  refine sd_iinc (lf2 := [some (.ref 52), some (.int 2)]) (pc := 168) d8_init_168 (Nat.le_of_ble_eq_true rfl) rfl (show Int32.ofInt 1 = 1 by decide) (by decide) ?_
  refine sd_goto (pc := 171) 154 d8_init_171 (by decide) ?_
  refine sd_iload_n (pc := 154) d8_init_154 rfl ?_
  refine sd_bipush (pc := 155) 6 d8_init_155 (by decide) ?_
  refine sd_brf (c := (6 : Int32) ≤ 2) (o1 := none) (by decide) (sd_ic_ge (pc := 157) 174 d8_init_157 (by decide) (fun _ => sd_none) (fun _ => ?_))
  refine sd_aload_n (pc := 160) d8_init_160 rfl ?_
  refine sc_getR (pc := 161) (a := 52) (ci := 7) (i := 5) 54 rfl (by decide) rfl fl8_17 d8_init_161 ?_
  refine sd_iload_n (pc := 164) d8_init_164 rfl ?_
  refine sd_bipush (pc := 165) (-9) d8_init_165 (by decide) ?_
  refine sc_iast (pc := 167) (a := 54) (n := 6) rfl (by decide) (by decide) hT d8_init_167 (fun T (hT : sc_wf 70 T) => ?_)
  refine sd_iinc (lf2 := [some (.ref 52), some (.int 3)]) (pc := 168) d8_init_168 (Nat.le_of_ble_eq_true rfl) rfl (show Int32.ofInt 1 = 1 by decide) (by decide) ?_
  refine sd_goto (pc := 171) 154 d8_init_171 (by decide) ?_
  refine sd_iload_n (pc := 154) d8_init_154 rfl ?_
  refine sd_bipush (pc := 155) 6 d8_init_155 (by decide) ?_
  refine sd_brf (c := (6 : Int32) ≤ 3) (o1 := none) (by decide) (sd_ic_ge (pc := 157) 174 d8_init_157 (by decide) (fun _ => sd_none) (fun _ => ?_))
  refine sd_aload_n (pc := 160) d8_init_160 rfl ?_
  refine sc_getR (pc := 161) (a := 52) (ci := 7) (i := 5) 54 rfl (by decide) rfl fl8_17 d8_init_161 ?_
  refine sd_iload_n (pc := 164) d8_init_164 rfl ?_
  refine sd_bipush (pc := 165) (-9) d8_init_165 (by decide) ?_
  refine sc_iast (pc := 167) (a := 54) (n := 6) rfl (by decide) (by decide) hT d8_init_167 (fun T (hT : sc_wf 70 T) => ?_)
  refine sd_iinc (lf2 := [some (.ref 52), some (.int 4)]) (pc := 168) d8_init_168 (Nat.le_of_ble_eq_true rfl) rfl (show Int32.ofInt 1 = 1 by decide) (by decide) ?_
  refine sd_goto (pc := 171) 154 d8_init_171 (by decide) ?_
  refine sd_iload_n (pc := 154) d8_init_154 rfl ?_
  refine sd_bipush (pc := 155) 6 d8_init_155 (by decide) ?_
  refine sd_brf (c := (6 : Int32) ≤ 4) (o1 := none) (by decide) (sd_ic_ge (pc := 157) 174 d8_init_157 (by decide) (fun _ => sd_none) (fun _ => ?_))
  refine sd_aload_n (pc := 160) d8_init_160 rfl ?_
  refine sc_getR (pc := 161) (a := 52) (ci := 7) (i := 5) 54 rfl (by decide) rfl fl8_17 d8_init_161 ?_
  refine sd_iload_n (pc := 164) d8_init_164 rfl ?_
  refine sd_bipush (pc := 165) (-9) d8_init_165 (by decide) ?_
  refine sc_iast (pc := 167) (a := 54) (n := 6) rfl (by decide) (by decide) hT d8_init_167 (fun T (hT : sc_wf 70 T) => ?_)
  refine sd_iinc (lf2 := [some (.ref 52), some (.int 5)]) (pc := 168) d8_init_168 (Nat.le_of_ble_eq_true rfl) rfl (show Int32.ofInt 1 = 1 by decide) (by decide) ?_
  refine sd_goto (pc := 171) 154 d8_init_171 (by decide) ?_
  refine sd_iload_n (pc := 154) d8_init_154 rfl ?_
  refine sd_bipush (pc := 155) 6 d8_init_155 (by decide) ?_
  refine sd_brf (c := (6 : Int32) ≤ 5) (o1 := none) (by decide) (sd_ic_ge (pc := 157) 174 d8_init_157 (by decide) (fun _ => sd_none) (fun _ => ?_))
  refine sd_aload_n (pc := 160) d8_init_160 rfl ?_
  refine sc_getR (pc := 161) (a := 52) (ci := 7) (i := 5) 54 rfl (by decide) rfl fl8_17 d8_init_161 ?_
  refine sd_iload_n (pc := 164) d8_init_164 rfl ?_
  refine sd_bipush (pc := 165) (-9) d8_init_165 (by decide) ?_
  refine sc_iast (pc := 167) (a := 54) (n := 6) rfl (by decide) (by decide) hT d8_init_167 (fun T (hT : sc_wf 70 T) => ?_)
  refine sd_iinc (lf2 := [some (.ref 52), some (.int 6)]) (pc := 168) d8_init_168 (Nat.le_of_ble_eq_true rfl) rfl (show Int32.ofInt 1 = 1 by decide) (by decide) ?_
  refine sd_goto (pc := 171) 154 d8_init_171 (by decide) ?_
  refine sd_iload_n (pc := 154) d8_init_154 rfl ?_
  refine sd_bipush (pc := 155) 6 d8_init_155 (by decide) ?_
  refine sd_brt (c := (6 : Int32) ≤ 6) (o2 := none) (by decide) (sd_ic_ge (pc := 157) 174 d8_init_157 (by decide) (fun _ => ?_) (fun _ => sd_none))
  refine sd_iconst (pc := 174) 0 d8_init_174 (by decide) ?_
  refine sd_istore_n (lf2 := [some (.ref 52), some (.int 0)]) (pc := 175) d8_init_175 (Nat.le_of_ble_eq_true rfl) rfl ?_
  refine sd_iload_n (pc := 176) d8_init_176 rfl ?_
  refine sd_iconst (pc := 177) 4 d8_init_177 (by decide) ?_
  refine sd_brf (c := (4 : Int32) ≤ 0) (o1 := none) (by decide) (sd_ic_ge (pc := 178) 195 d8_init_178 (by decide) (fun _ => sd_none) (fun _ => ?_))
  refine sd_aload_n (pc := 181) d8_init_181 rfl ?_
  refine sc_getR (pc := 182) (a := 52) (ci := 7) (i := 8) 57 rfl (by decide) rfl fl8_26 d8_init_182 ?_
  refine sd_iload_n (pc := 185) d8_init_185 rfl ?_
  refine sd_bipush (pc := 186) (-9) d8_init_186 (by decide) ?_
  refine sc_iast (pc := 188) (a := 57) (n := 4) rfl (by decide) (by decide) hT d8_init_188 (fun T (hT : sc_wf 70 T) => ?_)
  refine sd_iinc (lf2 := [some (.ref 52), some (.int 1)]) (pc := 189) d8_init_189 (Nat.le_of_ble_eq_true rfl) rfl (show Int32.ofInt 1 = 1 by decide) (by decide) ?_
  refine sd_goto (pc := 192) 176 d8_init_192 (by decide) ?_
  refine sd_iload_n (pc := 176) d8_init_176 rfl ?_
  refine sd_iconst (pc := 177) 4 d8_init_177 (by decide) ?_
  refine sd_brf (c := (4 : Int32) ≤ 1) (o1 := none) (by decide) (sd_ic_ge (pc := 178) 195 d8_init_178 (by decide) (fun _ => sd_none) (fun _ => ?_))
  refine sd_aload_n (pc := 181) d8_init_181 rfl ?_
  refine sc_getR (pc := 182) (a := 52) (ci := 7) (i := 8) 57 rfl (by decide) rfl fl8_26 d8_init_182 ?_
  refine sd_iload_n (pc := 185) d8_init_185 rfl ?_
  refine sd_bipush (pc := 186) (-9) d8_init_186 (by decide) ?_
  refine sc_iast (pc := 188) (a := 57) (n := 4) rfl (by decide) (by decide) hT d8_init_188 (fun T (hT : sc_wf 70 T) => ?_)
  refine sd_iinc (lf2 := [some (.ref 52), some (.int 2)]) (pc := 189) d8_init_189 (Nat.le_of_ble_eq_true rfl) rfl (show Int32.ofInt 1 = 1 by decide) (by decide) ?_
  refine sd_goto (pc := 192) 176 d8_init_192 (by decide) ?_
  refine sd_iload_n (pc := 176) d8_init_176 rfl ?_
  refine sd_iconst (pc := 177) 4 d8_init_177 (by decide) ?_
  refine sd_brf (c := (4 : Int32) ≤ 2) (o1 := none) (by decide) (sd_ic_ge (pc := 178) 195 d8_init_178 (by decide) (fun _ => sd_none) (fun _ => ?_))
  refine sd_aload_n (pc := 181) d8_init_181 rfl ?_
  refine sc_getR (pc := 182) (a := 52) (ci := 7) (i := 8) 57 rfl (by decide) rfl fl8_26 d8_init_182 ?_
  refine sd_iload_n (pc := 185) d8_init_185 rfl ?_
  refine sd_bipush (pc := 186) (-9) d8_init_186 (by decide) ?_
  refine sc_iast (pc := 188) (a := 57) (n := 4) rfl (by decide) (by decide) hT d8_init_188 (fun T (hT : sc_wf 70 T) => ?_)
  refine sd_iinc (lf2 := [some (.ref 52), some (.int 3)]) (pc := 189) d8_init_189 (Nat.le_of_ble_eq_true rfl) rfl (show Int32.ofInt 1 = 1 by decide) (by decide) ?_
  refine sd_goto (pc := 192) 176 d8_init_192 (by decide) ?_
  refine sd_iload_n (pc := 176) d8_init_176 rfl ?_
  refine sd_iconst (pc := 177) 4 d8_init_177 (by decide) ?_
  refine sd_brf (c := (4 : Int32) ≤ 3) (o1 := none) (by decide) (sd_ic_ge (pc := 178) 195 d8_init_178 (by decide) (fun _ => sd_none) (fun _ => ?_))
  refine sd_aload_n (pc := 181) d8_init_181 rfl ?_
  refine sc_getR (pc := 182) (a := 52) (ci := 7) (i := 8) 57 rfl (by decide) rfl fl8_26 d8_init_182 ?_
  refine sd_iload_n (pc := 185) d8_init_185 rfl ?_
  refine sd_bipush (pc := 186) (-9) d8_init_186 (by decide) ?_
  refine sc_iast (pc := 188) (a := 57) (n := 4) rfl (by decide) (by decide) hT d8_init_188 (fun T (hT : sc_wf 70 T) => ?_)
  refine sd_iinc (lf2 := [some (.ref 52), some (.int 4)]) (pc := 189) d8_init_189 (Nat.le_of_ble_eq_true rfl) rfl (show Int32.ofInt 1 = 1 by decide) (by decide) ?_
  refine sd_goto (pc := 192) 176 d8_init_192 (by decide) ?_
  refine sd_iload_n (pc := 176) d8_init_176 rfl ?_
  refine sd_iconst (pc := 177) 4 d8_init_177 (by decide) ?_
  refine sd_brt (c := (4 : Int32) ≤ 4) (o2 := none) (by decide) (sd_ic_ge (pc := 178) 195 d8_init_178 (by decide) (fun _ => ?_) (fun _ => sd_none))
  refine sd_aload_n (pc := 195) d8_init_195 rfl ?_
  refine sc_getR (pc := 196) (a := 52) (ci := 7) (i := 10) 59 rfl (by decide) rfl fl8_32 d8_init_196 ?_
  refine sd_iconst (pc := 199) 0 d8_init_199 (by decide) ?_
  refine sd_iconst (pc := 200) 0 d8_init_200 (by decide) ?_
  refine sc_iast (pc := 201) (a := 59) (n := 15) rfl (by decide) (by decide) hT d8_init_201 (fun T (hT : sc_wf 70 T) => ?_)
  refine sd_aload_n (pc := 202) d8_init_202 rfl ?_
  refine sc_getR (pc := 203) (a := 52) (ci := 7) (i := 10) 59 rfl (by decide) rfl fl8_32 d8_init_203 ?_
  refine sd_iconst (pc := 206) 1 d8_init_206 (by decide) ?_
  refine sd_iconst (pc := 207) 0 d8_init_207 (by decide) ?_
  refine sc_iast (pc := 208) (a := 59) (n := 15) rfl (by decide) (by decide) hT d8_init_208 (fun T (hT : sc_wf 70 T) => ?_)
  refine sd_iconst (pc := 209) 2 d8_init_209 (by decide) ?_
  refine sd_istore_n (lf2 := [some (.ref 52), some (.int 2)]) (pc := 210) d8_init_210 (Nat.le_of_ble_eq_true rfl) rfl ?_
  refine sd_iload_n (pc := 211) d8_init_211 rfl ?_
  refine sd_bipush (pc := 212) 15 d8_init_212 (by decide) ?_
  refine sd_brf (c := (15 : Int32) ≤ 2) (o1 := none) (by decide) (sd_ic_ge (pc := 214) 241 d8_init_214 (by decide) (fun _ => sd_none) (fun _ => ?_))
  refine sd_aload_n (pc := 217) d8_init_217 rfl ?_
  refine sc_getR (pc := 218) (a := 52) (ci := 7) (i := 10) 59 rfl (by decide) rfl fl8_32 d8_init_218 ?_
  refine sd_iload_n (pc := 221) d8_init_221 rfl ?_
  refine sd_iload_n (pc := 222) d8_init_222 rfl ?_
  refine sd_bipush (pc := 223) 8 d8_init_223 (by decide) ?_
  refine sd_brf (c := (2 : Int32) = 8) (o1 := none) (by decide) (sd_ic_ne (pc := 225) 232 d8_init_225 (by decide) (fun _ => sd_none) (fun _ => ?_))
  refine sd_bipush (pc := 232) (-9) d8_init_232 (by decide) ?_
  refine sc_iast (pc := 234) (a := 59) (n := 15) rfl (by decide) (by decide) hT d8_init_234 (fun T (hT : sc_wf 70 T) => ?_)
  refine sd_iinc (lf2 := [some (.ref 52), some (.int 3)]) (pc := 235) d8_init_235 (Nat.le_of_ble_eq_true rfl) rfl (show Int32.ofInt 1 = 1 by decide) (by decide) ?_
  refine sd_goto (pc := 238) 211 d8_init_238 (by decide) ?_
  refine sd_iload_n (pc := 211) d8_init_211 rfl ?_
  refine sd_bipush (pc := 212) 15 d8_init_212 (by decide) ?_
  refine sd_brf (c := (15 : Int32) ≤ 3) (o1 := none) (by decide) (sd_ic_ge (pc := 214) 241 d8_init_214 (by decide) (fun _ => sd_none) (fun _ => ?_))
  refine sd_aload_n (pc := 217) d8_init_217 rfl ?_
  refine sc_getR (pc := 218) (a := 52) (ci := 7) (i := 10) 59 rfl (by decide) rfl fl8_32 d8_init_218 ?_
  refine sd_iload_n (pc := 221) d8_init_221 rfl ?_
  refine sd_iload_n (pc := 222) d8_init_222 rfl ?_
  refine sd_bipush (pc := 223) 8 d8_init_223 (by decide) ?_
  refine sd_brf (c := (3 : Int32) = 8) (o1 := none) (by decide) (sd_ic_ne (pc := 225) 232 d8_init_225 (by decide) (fun _ => sd_none) (fun _ => ?_))
  refine sd_bipush (pc := 232) (-9) d8_init_232 (by decide) ?_
  refine sc_iast (pc := 234) (a := 59) (n := 15) rfl (by decide) (by decide) hT d8_init_234 (fun T (hT : sc_wf 70 T) => ?_)
  refine sd_iinc (lf2 := [some (.ref 52), some (.int 4)]) (pc := 235) d8_init_235 (Nat.le_of_ble_eq_true rfl) rfl (show Int32.ofInt 1 = 1 by decide) (by decide) ?_
  refine sd_goto (pc := 238) 211 d8_init_238 (by decide) ?_
  refine sd_iload_n (pc := 211) d8_init_211 rfl ?_
  refine sd_bipush (pc := 212) 15 d8_init_212 (by decide) ?_
  refine sd_brf (c := (15 : Int32) ≤ 4) (o1 := none) (by decide) (sd_ic_ge (pc := 214) 241 d8_init_214 (by decide) (fun _ => sd_none) (fun _ => ?_))
  refine sd_aload_n (pc := 217) d8_init_217 rfl ?_
  refine sc_getR (pc := 218) (a := 52) (ci := 7) (i := 10) 59 rfl (by decide) rfl fl8_32 d8_init_218 ?_
  refine sd_iload_n (pc := 221) d8_init_221 rfl ?_
  refine sd_iload_n (pc := 222) d8_init_222 rfl ?_
  refine sd_bipush (pc := 223) 8 d8_init_223 (by decide) ?_
  refine sd_brf (c := (4 : Int32) = 8) (o1 := none) (by decide) (sd_ic_ne (pc := 225) 232 d8_init_225 (by decide) (fun _ => sd_none) (fun _ => ?_))
  refine sd_bipush (pc := 232) (-9) d8_init_232 (by decide) ?_
  refine sc_iast (pc := 234) (a := 59) (n := 15) rfl (by decide) (by decide) hT d8_init_234 (fun T (hT : sc_wf 70 T) => ?_)
  refine sd_iinc (lf2 := [some (.ref 52), some (.int 5)]) (pc := 235) d8_init_235 (Nat.le_of_ble_eq_true rfl) rfl (show Int32.ofInt 1 = 1 by decide) (by decide) ?_
  refine sd_goto (pc := 238) 211 d8_init_238 (by decide) ?_
  refine sd_iload_n (pc := 211) d8_init_211 rfl ?_
  refine sd_bipush (pc := 212) 15 d8_init_212 (by decide) ?_
  refine sd_brf (c := (15 : Int32) ≤ 5) (o1 := none) (by decide) (sd_ic_ge (pc := 214) 241 d8_init_214 (by decide) (fun _ => sd_none) (fun _ => ?_))
  refine sd_aload_n (pc := 217) d8_init_217 rfl ?_
  refine sc_getR (pc := 218) (a := 52) (ci := 7) (i := 10) 59 rfl (by decide) rfl fl8_32 d8_init_218 ?_
  refine sd_iload_n (pc := 221) d8_init_221 rfl ?_
  refine sd_iload_n (pc := 222) d8_init_222 rfl ?_
  refine sd_bipush (pc := 223) 8 d8_init_223 (by decide) ?_
  refine sd_brf (c := (5 : Int32) = 8) (o1 := none) (by decide) (sd_ic_ne (pc := 225) 232 d8_init_225 (by decide) (fun _ => sd_none) (fun _ => ?_))
  refine sd_bipush (pc := 232) (-9) d8_init_232 (by decide) ?_
  refine sc_iast (pc := 234) (a := 59) (n := 15) rfl (by decide) (by decide) hT d8_init_234 (fun T (hT : sc_wf 70 T) => ?_)
  refine sd_iinc (lf2 := [some (.ref 52), some (.int 6)]) (pc := 235) d8_init_235 (Nat.le_of_ble_eq_true rfl) rfl (show Int32.ofInt 1 = 1 by decide) (by decide) ?_
  refine sd_goto (pc := 238) 211 d8_init_238 (by decide) ?_
  refine sd_iload_n (pc := 211) d8_init_211 rfl ?_
  refine sd_bipush (pc := 212) 15 d8_init_212 (by decide) ?_
  refine sd_brf (c := (15 : Int32) ≤ 6) (o1 := none) (by decide) (sd_ic_ge (pc := 214) 241 d8_init_214 (by decide) (fun _ => sd_none) (fun _ => ?_))
  refine sd_aload_n (pc := 217) d8_init_217 rfl ?_
  refine sc_getR (pc := 218) (a := 52) (ci := 7) (i := 10) 59 rfl (by decide) rfl fl8_32 d8_init_218 ?_
  refine sd_iload_n (pc := 221) d8_init_221 rfl ?_
  refine sd_iload_n (pc := 222) d8_init_222 rfl ?_
  refine sd_bipush (pc := 223) 8 d8_init_223 (by decide) ?_
  refine sd_brf (c := (6 : Int32) = 8) (o1 := none) (by decide) (sd_ic_ne (pc := 225) 232 d8_init_225 (by decide) (fun _ => sd_none) (fun _ => ?_))
  refine sd_bipush (pc := 232) (-9) d8_init_232 (by decide) ?_
  refine sc_iast (pc := 234) (a := 59) (n := 15) rfl (by decide) (by decide) hT d8_init_234 (fun T (hT : sc_wf 70 T) => ?_)
  refine sd_iinc (lf2 := [some (.ref 52), some (.int 7)]) (pc := 235) d8_init_235 (Nat.le_of_ble_eq_true rfl) rfl (show Int32.ofInt 1 = 1 by decide) (by decide) ?_
  refine sd_goto (pc := 238) 211 d8_init_238 (by decide) ?_
  refine sd_iload_n (pc := 211) d8_init_211 rfl ?_
  refine sd_bipush (pc := 212) 15 d8_init_212 (by decide) ?_
  refine sd_brf (c := (15 : Int32) ≤ 7) (o1 := none) (by decide) (sd_ic_ge (pc := 214) 241 d8_init_214 (by decide) (fun _ => sd_none) (fun _ => ?_))
  refine sd_aload_n (pc := 217) d8_init_217 rfl ?_
  refine sc_getR (pc := 218) (a := 52) (ci := 7) (i := 10) 59 rfl (by decide) rfl fl8_32 d8_init_218 ?_
  refine sd_iload_n (pc := 221) d8_init_221 rfl ?_
  refine sd_iload_n (pc := 222) d8_init_222 rfl ?_
  refine sd_bipush (pc := 223) 8 d8_init_223 (by decide) ?_
  refine sd_brf (c := (7 : Int32) = 8) (o1 := none) (by decide) (sd_ic_ne (pc := 225) 232 d8_init_225 (by decide) (fun _ => sd_none) (fun _ => ?_))
  refine sd_bipush (pc := 232) (-9) d8_init_232 (by decide) ?_
  refine sc_iast (pc := 234) (a := 59) (n := 15) rfl (by decide) (by decide) hT d8_init_234 (fun T (hT : sc_wf 70 T) => ?_)
  refine sd_iinc (lf2 := [some (.ref 52), some (.int 8)]) (pc := 235) d8_init_235 (Nat.le_of_ble_eq_true rfl) rfl (show Int32.ofInt 1 = 1 by decide) (by decide) ?_
  refine sd_goto (pc := 238) 211 d8_init_238 (by decide) ?_
  refine sd_iload_n (pc := 211) d8_init_211 rfl ?_
  refine sd_bipush (pc := 212) 15 d8_init_212 (by decide) ?_
  refine sd_brf (c := (15 : Int32) ≤ 8) (o1 := none) (by decide) (sd_ic_ge (pc := 214) 241 d8_init_214 (by decide) (fun _ => sd_none) (fun _ => ?_))
  refine sd_aload_n (pc := 217) d8_init_217 rfl ?_
  refine sc_getR (pc := 218) (a := 52) (ci := 7) (i := 10) 59 rfl (by decide) rfl fl8_32 d8_init_218 ?_
  refine sd_iload_n (pc := 221) d8_init_221 rfl ?_
  refine sd_iload_n (pc := 222) d8_init_222 rfl ?_
  refine sd_bipush (pc := 223) 8 d8_init_223 (by decide) ?_
  refine sd_brt (c := (8 : Int32) = 8) (o2 := none) (by decide) (sd_ic_ne (pc := 225) 232 d8_init_225 (by decide) (fun _ => ?_) (fun _ => sd_none))
  refine sd_iconst (pc := 228) 1 d8_init_228 (by decide) ?_
  refine sd_goto (pc := 229) 234 d8_init_229 (by decide) ?_
  refine sc_iast (pc := 234) (a := 59) (n := 15) rfl (by decide) (by decide) hT d8_init_234 (fun T (hT : sc_wf 70 T) => ?_)
  refine sd_iinc (lf2 := [some (.ref 52), some (.int 9)]) (pc := 235) d8_init_235 (Nat.le_of_ble_eq_true rfl) rfl (show Int32.ofInt 1 = 1 by decide) (by decide) ?_
  refine sd_goto (pc := 238) 211 d8_init_238 (by decide) ?_
  refine sd_iload_n (pc := 211) d8_init_211 rfl ?_
  refine sd_bipush (pc := 212) 15 d8_init_212 (by decide) ?_
  refine sd_brf (c := (15 : Int32) ≤ 9) (o1 := none) (by decide) (sd_ic_ge (pc := 214) 241 d8_init_214 (by decide) (fun _ => sd_none) (fun _ => ?_))
  refine sd_aload_n (pc := 217) d8_init_217 rfl ?_
  refine sc_getR (pc := 218) (a := 52) (ci := 7) (i := 10) 59 rfl (by decide) rfl fl8_32 d8_init_218 ?_
  refine sd_iload_n (pc := 221) d8_init_221 rfl ?_
  refine sd_iload_n (pc := 222) d8_init_222 rfl ?_
  refine sd_bipush (pc := 223) 8 d8_init_223 (by decide) ?_
  refine sd_brf (c := (9 : Int32) = 8) (o1 := none) (by decide) (sd_ic_ne (pc := 225) 232 d8_init_225 (by decide) (fun _ => sd_none) (fun _ => ?_))
  refine sd_bipush (pc := 232) (-9) d8_init_232 (by decide) ?_
  refine sc_iast (pc := 234) (a := 59) (n := 15) rfl (by decide) (by decide) hT d8_init_234 (fun T (hT : sc_wf 70 T) => ?_)
  refine sd_iinc (lf2 := [some (.ref 52), some (.int 10)]) (pc := 235) d8_init_235 (Nat.le_of_ble_eq_true rfl) rfl (show Int32.ofInt 1 = 1 by decide) (by decide) ?_
  refine sd_goto (pc := 238) 211 d8_init_238 (by decide) ?_
  refine sd_iload_n (pc := 211) d8_init_211 rfl ?_
  refine sd_bipush (pc := 212) 15 d8_init_212 (by decide) ?_
  refine sd_brf (c := (15 : Int32) ≤ 10) (o1 := none) (by decide) (sd_ic_ge (pc := 214) 241 d8_init_214 (by decide) (fun _ => sd_none) (fun _ => ?_))
  refine sd_aload_n (pc := 217) d8_init_217 rfl ?_
  refine sc_getR (pc := 218) (a := 52) (ci := 7) (i := 10) 59 rfl (by decide) rfl fl8_32 d8_init_218 ?_
  refine sd_iload_n (pc := 221) d8_init_221 rfl ?_
  refine sd_iload_n (pc := 222) d8_init_222 rfl ?_
  refine sd_bipush (pc := 223) 8 d8_init_223 (by decide) ?_
  refine sd_brf (c := (10 : Int32) = 8) (o1 := none) (by decide) (sd_ic_ne (pc := 225) 232 d8_init_225 (by decide) (fun _ => sd_none) (fun _ => ?_))
  refine sd_bipush (pc := 232) (-9) d8_init_232 (by decide) ?_
  refine sc_iast (pc := 234) (a := 59) (n := 15) rfl (by decide) (by decide) hT d8_init_234 (fun T (hT : sc_wf 70 T) => ?_)
  refine sd_iinc (lf2 := [some (.ref 52), some (.int 11)]) (pc := 235) d8_init_235 (Nat.le_of_ble_eq_true rfl) rfl (show Int32.ofInt 1 = 1 by decide) (by decide) ?_
  refine sd_goto (pc := 238) 211 d8_init_238 (by decide) ?_
  refine sd_iload_n (pc := 211) d8_init_211 rfl ?_
  refine sd_bipush (pc := 212) 15 d8_init_212 (by decide) ?_
  refine sd_brf (c := (15 : Int32) ≤ 11) (o1 := none) (by decide) (sd_ic_ge (pc := 214) 241 d8_init_214 (by decide) (fun _ => sd_none) (fun _ => ?_))
  refine sd_aload_n (pc := 217) d8_init_217 rfl ?_
  refine sc_getR (pc := 218) (a := 52) (ci := 7) (i := 10) 59 rfl (by decide) rfl fl8_32 d8_init_218 ?_
  refine sd_iload_n (pc := 221) d8_init_221 rfl ?_
  refine sd_iload_n (pc := 222) d8_init_222 rfl ?_
  refine sd_bipush (pc := 223) 8 d8_init_223 (by decide) ?_
  refine sd_brf (c := (11 : Int32) = 8) (o1 := none) (by decide) (sd_ic_ne (pc := 225) 232 d8_init_225 (by decide) (fun _ => sd_none) (fun _ => ?_))
  refine sd_bipush (pc := 232) (-9) d8_init_232 (by decide) ?_
  refine sc_iast (pc := 234) (a := 59) (n := 15) rfl (by decide) (by decide) hT d8_init_234 (fun T (hT : sc_wf 70 T) => ?_)
  refine sd_iinc (lf2 := [some (.ref 52), some (.int 12)]) (pc := 235) d8_init_235 (Nat.le_of_ble_eq_true rfl) rfl (show Int32.ofInt 1 = 1 by decide) (by decide) ?_
  refine sd_goto (pc := 238) 211 d8_init_238 (by decide) ?_
  refine sd_iload_n (pc := 211) d8_init_211 rfl ?_
  refine sd_bipush (pc := 212) 15 d8_init_212 (by decide) ?_
  refine sd_brf (c := (15 : Int32) ≤ 12) (o1 := none) (by decide) (sd_ic_ge (pc := 214) 241 d8_init_214 (by decide) (fun _ => sd_none) (fun _ => ?_))
  refine sd_aload_n (pc := 217) d8_init_217 rfl ?_
  refine sc_getR (pc := 218) (a := 52) (ci := 7) (i := 10) 59 rfl (by decide) rfl fl8_32 d8_init_218 ?_
  refine sd_iload_n (pc := 221) d8_init_221 rfl ?_
  refine sd_iload_n (pc := 222) d8_init_222 rfl ?_
  refine sd_bipush (pc := 223) 8 d8_init_223 (by decide) ?_
  refine sd_brf (c := (12 : Int32) = 8) (o1 := none) (by decide) (sd_ic_ne (pc := 225) 232 d8_init_225 (by decide) (fun _ => sd_none) (fun _ => ?_))
  refine sd_bipush (pc := 232) (-9) d8_init_232 (by decide) ?_
  refine sc_iast (pc := 234) (a := 59) (n := 15) rfl (by decide) (by decide) hT d8_init_234 (fun T (hT : sc_wf 70 T) => ?_)
  refine sd_iinc (lf2 := [some (.ref 52), some (.int 13)]) (pc := 235) d8_init_235 (Nat.le_of_ble_eq_true rfl) rfl (show Int32.ofInt 1 = 1 by decide) (by decide) ?_
  refine sd_goto (pc := 238) 211 d8_init_238 (by decide) ?_
  refine sd_iload_n (pc := 211) d8_init_211 rfl ?_
  refine sd_bipush (pc := 212) 15 d8_init_212 (by decide) ?_
  refine sd_brf (c := (15 : Int32) ≤ 13) (o1 := none) (by decide) (sd_ic_ge (pc := 214) 241 d8_init_214 (by decide) (fun _ => sd_none) (fun _ => ?_))
  refine sd_aload_n (pc := 217) d8_init_217 rfl ?_
  refine sc_getR (pc := 218) (a := 52) (ci := 7) (i := 10) 59 rfl (by decide) rfl fl8_32 d8_init_218 ?_
  refine sd_iload_n (pc := 221) d8_init_221 rfl ?_
  refine sd_iload_n (pc := 222) d8_init_222 rfl ?_
  refine sd_bipush (pc := 223) 8 d8_init_223 (by decide) ?_
  refine sd_brf (c := (13 : Int32) = 8) (o1 := none) (by decide) (sd_ic_ne (pc := 225) 232 d8_init_225 (by decide) (fun _ => sd_none) (fun _ => ?_))
  refine sd_bipush (pc := 232) (-9) d8_init_232 (by decide) ?_
  refine sc_iast (pc := 234) (a := 59) (n := 15) rfl (by decide) (by decide) hT d8_init_234 (fun T (hT : sc_wf 70 T) => ?_)
  refine sd_iinc (lf2 := [some (.ref 52), some (.int 14)]) (pc := 235) d8_init_235 (Nat.le_of_ble_eq_true rfl) rfl (show Int32.ofInt 1 = 1 by decide) (by decide) ?_
  refine sd_goto (pc := 238) 211 d8_init_238 (by decide) ?_
  refine sd_iload_n (pc := 211) d8_init_211 rfl ?_
  refine sd_bipush (pc := 212) 15 d8_init_212 (by decide) ?_
  refine sd_brf (c := (15 : Int32) ≤ 14) (o1 := none) (by decide) (sd_ic_ge (pc := 214) 241 d8_init_214 (by decide) (fun _ => sd_none) (fun _ => ?_))
  refine sd_aload_n (pc := 217) d8_init_217 rfl ?_
  refine sc_getR (pc := 218) (a := 52) (ci := 7) (i := 10) 59 rfl (by decide) rfl fl8_32 d8_init_218 ?_
  refine sd_iload_n (pc := 221) d8_init_221 rfl ?_
  refine sd_iload_n (pc := 222) d8_init_222 rfl ?_
  refine sd_bipush (pc := 223) 8 d8_init_223 (by decide) ?_
  refine sd_brf (c := (14 : Int32) = 8) (o1 := none) (by decide) (sd_ic_ne (pc := 225) 232 d8_init_225 (by decide) (fun _ => sd_none) (fun _ => ?_))
  refine sd_bipush (pc := 232) (-9) d8_init_232 (by decide) ?_
  refine sc_iast (pc := 234) (a := 59) (n := 15) rfl (by decide) (by decide) hT d8_init_234 (fun T (hT : sc_wf 70 T) => ?_)
  refine sd_iinc (lf2 := [some (.ref 52), some (.int 15)]) (pc := 235) d8_init_235 (Nat.le_of_ble_eq_true rfl) rfl (show Int32.ofInt 1 = 1 by decide) (by decide) ?_
  refine sd_goto (pc := 238) 211 d8_init_238 (by decide) ?_
  refine sd_iload_n (pc := 211) d8_init_211 rfl ?_
  refine sd_bipush (pc := 212) 15 d8_init_212 (by decide) ?_
  refine sd_brt (c := (15 : Int32) ≤ 15) (o2 := none) (by decide) (sd_ic_ge (pc := 214) 241 d8_init_214 (by decide) (fun _ => ?_) (fun _ => sd_none))
  exact sc_vret (pc := 241) d8_init_241 (Nat.le_of_ble_eq_true rfl) (Nat.le_of_ble_eq_true rfl)
