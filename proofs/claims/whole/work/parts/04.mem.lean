abbrev sm_t : Type := (Nat → Nat → Int32) × (Nat → Nat → Int64) × Nat × Nat × Option Nat
def sm_s0 (n : Nat) : sm_Sh := [.inl (.int, 8), .inl (.int, 8), .inl (.int, n), .inr 6, .inl (.array .int, 6), .inl (.int, 40), .inl (.int, 40), .inl (.int, 40), .inl (.int, 40), .inl (.int, 40), .inl (.int, 40), .inl (.int, 6), .inl (.array .byte, 4), .inl (.byte, 80), .inl (.byte, 80), .inl (.byte, 80), .inl (.byte, 80), .inl (.int, 4), .inr 1, .inr 2, .inl (.int, 6), .inl (.int, 7), .inr 0, .inl (.object "TwoFliers$Sign", 12), .inr 5, .inr 5, .inr 5, .inr 5, .inr 5, .inr 5, .inr 5, .inr 5, .inr 5, .inr 5, .inr 5, .inr 5, .inl (.array .int, 3), .inl (.int, 120), .inl (.int, 120), .inl (.int, 120), .inl (.long, 120), .inl (.long, 7), .inl (.long, 120), .inl (.long, 120), .inl (.long, 120), .inl (.boolean, 3), .inr 3, .inl (.int, 120), .inr 4, .inl (.int, 5), .inl (.int, 5), .inl (.int, 6), .inr 7, .inl (.int, 6), .inl (.int, 6), .inl (.int, 240), .inl (.int, 40), .inl (.int, 4), .inl (.int, 320), .inl (.int, 15), .inl (.boolean, 4), .inl (.int, 480), .inl (.int, 120), .inl (.int, 60), .inl (.long, 840), .inl (.long, 840), .inl (.long, 120), .inl (.int, 5), .inl (.int, 5), .inl (.int, 6)]
def sm_sq (a : Nat) : Option ((FieldType × Nat) ⊕ Nat) := if a < 3 then none else (sm_s0 0)[a]?
def sm_r0 (nw nx : Nat) (tx : Option Nat) (a k : Nat) : Option Nat :=
  if a = 3 then ([some 4, some 11, some 12, some 17, some 18, some 19, some 22, some 36, some 45, some 46, some 48, none, none, none, none, some 51] : List (Option Nat)).getD k none else if a = 18 then ([some 19, some 22, some 36, some 40, some 41, none, some nw, some nx, some 44] : List (Option Nat)).getD k none else if a = 19 then ([none, none, some 20, some 21] : List (Option Nat)).getD k none else if a = 22 then ([some 23, none] : List (Option Nat)).getD k none else if a = 46 then ([tx, none, none, none, some 47, none] : List (Option Nat)).getD k none else if a = 48 then ([some 49, some 50, none, none] : List (Option Nat)).getD k none else if a = 52 then ([none, some 53, none, none, none, some 54, some 55, some 56, some 57, some 58, some 59, some 60, some 61, some 62, none, none, none, none, some 63, none, some 64, some 65, some 66, none, some 67, some 68, none, none, some 69, none] : List (Option Nat)).getD k none else if a = 4 then (if k < 6 then some (5 + k) else none) else if a = 12 then (if k < 4 then some (13 + k) else none) else if a = 36 then (if k < 3 then some (37 + k) else none) else if a = 23 then (if k < 12 then some (24 + k) else none) else none
def sm_m (n : Nat) (S : sm_t) : sm_M := (sm_s0 n, S.1, S.2.1, sm_r0 S.2.2.1 S.2.2.2.1 S.2.2.2.2)
theorem sm_sq_at {a n : Nat} {S : sm_t} {x : (FieldType × Nat) ⊕ Nat} (h : sm_sq a = some x) : 3 ≤ a ∧ (sm_m n S).1[a]? = some x := by
  unfold sm_sq at h
  split at h
  · cases h
  · rename_i q
    refine ⟨by omega, ?_⟩
    obtain ⟨b, rfl⟩ : ∃ b, a = b + 3 := ⟨a - 3, by omega⟩
    exact h
def sm_ix (i : Int32) (n : Nat) : Bool := decide (¬ i < 0) && decide (i.toNatClampNeg < n)
theorem sm_ix_in {i : Int32} {n : Nat} (h : sm_ix i n = true) : vp_in i n := by
  simp only [sm_ix, Bool.and_eq_true, decide_eq_true_eq] at h
  exact fun q => q.elim h.1 (fun z => by omega)
def sm_rd {α ρ : Type} (f : Nat → α) (n : Nat) (i : Int32) (K : α → Option ρ) : Option ρ := if sm_ix i n = true then K (f i.toNatClampNeg) else none
def sm_an {ρ : Type} (ty : FieldType) (a : Nat) (K : Nat → Option ρ) : Option ρ := match sm_sq a with
  | some (.inl q) => if q.1 = ty then K q.2 else none
  | _ => none
def sm_on {ρ : Type} (ci a : Nat) (o : Option ρ) : Option ρ := if sm_sq a = some (.inr ci) then o else none
def sm_wI (S : sm_t) (a i : Nat) (x : Int32) : sm_t := (va_up S.1 a (upd (S.1 a) i x), S.2)
def sm_wL (S : sm_t) (a i : Nat) (x : Int64) : sm_t := (S.1, va_up S.2.1 a (vp_updL (S.2.1 a) i x), S.2.2)
def sm_wr {ρ : Type} (S : sm_t) (a n : Nat) (i x : Int32) (K : sm_t → Option ρ) : Option ρ := if sm_ix i n = true then K (sm_wI S a i.toNatClampNeg x) else none
def sm_wl {ρ : Type} (S : sm_t) (a n : Nat) (i : Int32) (x : Int64) (K : sm_t → Option ρ) : Option ρ := if sm_ix i n = true then K (sm_wL S a i.toNatClampNeg x) else none
theorem sm_R_set {g : sm_G} {M M' : sm_M} {H H1 : Heap} {a : Nat} {x : (FieldType × Nat) ⊕ Nat} {E : va_E} (hM : sm_R g M H) (hs : M'.1 = M.1) (ho : ∀ b, b ≠ a → M'.2.1 b = M.2.1 b ∧ M'.2.2.1 b = M.2.2.1 b ∧ M'.2.2.2 b = M.2.2.2 b) (h : M.1[a]? = some x) (h3 : 3 ≤ a) (hE : sm_ce g M' a x = E) (hP : va_P g.2.2.2.2.1 sm_cl ((sm_w g M).set (a - 3) (g.1 a, E)) H1) (hD : va_D (sm_A g) ((sm_w g M).set (a - 3) (g.1 a, E))) : sm_R g M' H1 := by
  rw [sm_w_set hs ho h h3 hE] at hP hD
  obtain ⟨⟨e1, e2, e3, e4, e5, e6⟩, -, -⟩ := hM
  exact ⟨⟨by rw [hs]; exact e1, by rw [hs]; exact e2, by rw [hs]; exact e3, (ho 0 (by omega)).1.trans e4, (ho 1 (by omega)).1.trans e5, (ho 2 (by omega)).1.trans e6⟩, hP, hD⟩
theorem sm_up_o {α : Type} (f : Nat → α) {a b : Nat} (x : α) (h : b ≠ a) : va_up f a x b = f b := if_neg h
theorem sm_up_s {α : Type} (f : Nat → α) (a : Nat) (x : α) : va_up f a x a = x := if_pos rfl
def sm_jI (n : Nat) : Int32 × sm_t → Option Value × sm_M := fun q => (some (.int q.1), sm_m n q.2)
def sm_jL (n : Nat) : Int64 × sm_t → Option Value × sm_M := fun q => (some (.long q.1), sm_m n q.2)
def sm_jV (n : Nat) : sm_t → Option Value × sm_M := fun q => (none, sm_m n q)
section
variable {ρ : Type} {j : ρ → Option Value × sm_M} {k : sm_K} {cs sl pc N : Nat} {lf : List (Option Value)} {st : List Value} {S : sm_t} {o : Option ρ}
theorem sd_an {M : sm_M} {ty : FieldType} {a : Nat} {K : Nat → Option ρ} (h : ∀ n, sm_sq a = some (.inl (ty, n)) → sm_S j k cs sl pc lf st M (K n)) : sm_S j k cs sl pc lf st M (sm_an ty a K) := by
  intro r hr
  unfold sm_an at hr
  split at hr
  · rename_i q e
    obtain ⟨t, n⟩ := q
    dsimp only at hr
    split at hr
    · rename_i z
      subst z
      exact h n e r hr
    · cases hr
  · cases hr
theorem sd_on {M : sm_M} {ci a : Nat} (h : sm_sq a = some (.inr ci) → sm_S j k cs sl pc lf st M o) : sm_S j k cs sl pc lf st M (sm_on ci a o) := by
  intro r hr
  unfold sm_on at hr
  split at hr
  · rename_i e
    exact h e r hr
  · cases hr
theorem sd_iald {a n : Nat} {i : Int32} {K : Int32 → Option ρ} (hs : sm_sq a = some (.inl (.int, n))) (hd : decode k.2.1 pc = .ok (.iaload, 1)) (h : ∀ v : Int32, sm_S j k cs sl (pc + 1) lf (.int v :: st) (sm_m N S) (K v)) : sm_S j k cs sl pc lf (.int i :: .ref a :: st) (sm_m N S) (sm_rd (S.1 a) n i K) := by
  intro r hr nn g0 g p l e R s m args below meth c Q hC hx hn hQ H locs ls hM hS hL
  unfold sm_rd at hr
  split at hr
  · rename_i hi
    obtain ⟨h3, hs'⟩ := sm_sq_at (n := N) (S := S) hs
    have hw : (sm_w g (sm_m N S))[a - 3]? = some (g.1 a, .inl (g.2.2.2.2.2 .int, n, .inl (S.1 a))) := sm_w_at hs' h3
    exact va_iald hC.1 hC.2.1 hC.2.2.2.2.2.2.2.2.2.1.1 hM.2.1 (a - 3) 0 hw rfl (sm_ix_in hi) hd (h _ r hr nn g0 g p l e R s m args below meth c Q hC hx hn hQ H locs ls hM hS hL)
  · cases hr
theorem sd_bald {a n : Nat} {i : Int32} {K : Int32 → Option ρ} (hs : sm_sq a = some (.inl (.byte, n))) (hd : decode k.2.1 pc = .ok (.baload, 1)) (h : ∀ v : Int32, sm_S j k cs sl (pc + 1) lf (.int v :: st) (sm_m N S) (K v)) : sm_S j k cs sl pc lf (.int i :: .ref a :: st) (sm_m N S) (sm_rd (S.1 a) n i K) := by
  intro r hr nn g0 g p l e R s m args below meth c Q hC hx hn hQ H locs ls hM hS hL
  unfold sm_rd at hr
  split at hr
  · rename_i hi
    obtain ⟨h3, hs'⟩ := sm_sq_at (n := N) (S := S) hs
    have hw : (sm_w g (sm_m N S))[a - 3]? = some (g.1 a, .inl (g.2.2.2.2.2 .byte, n, .inl (S.1 a))) := sm_w_at hs' h3
    exact va_bald hC.1 hC.2.1 hC.2.2.2.2.2.2.2.2.2.1.1 hM.2.1 (a - 3) 2 hw rfl (sm_ix_in hi) hd (h _ r hr nn g0 g p l e R s m args below meth c Q hC hx hn hQ H locs ls hM hS hL)
  · cases hr
theorem sd_zald {a n : Nat} {i : Int32} {K : Int32 → Option ρ} (hs : sm_sq a = some (.inl (.boolean, n))) (hd : decode k.2.1 pc = .ok (.baload, 1)) (h : ∀ v : Int32, sm_S j k cs sl (pc + 1) lf (.int v :: st) (sm_m N S) (K v)) : sm_S j k cs sl pc lf (.int i :: .ref a :: st) (sm_m N S) (sm_rd (S.1 a) n i K) := by
  intro r hr nn g0 g p l e R s m args below meth c Q hC hx hn hQ H locs ls hM hS hL
  unfold sm_rd at hr
  split at hr
  · rename_i hi
    obtain ⟨h3, hs'⟩ := sm_sq_at (n := N) (S := S) hs
    have hw : (sm_w g (sm_m N S))[a - 3]? = some (g.1 a, .inl (g.2.2.2.2.2 .boolean, n, .inl (S.1 a))) := sm_w_at hs' h3
    exact va_zald hC.1 hC.2.1 hC.2.2.2.2.2.2.2.2.2.1.1 hM.2.1 (a - 3) 3 hw rfl (sm_ix_in hi) hd (h _ r hr nn g0 g p l e R s m args below meth c Q hC hx hn hQ H locs ls hM hS hL)
  · cases hr
theorem sd_lald {a n : Nat} {i : Int32} {K : Int64 → Option ρ} (hs : sm_sq a = some (.inl (.long, n))) (hd : decode k.2.1 pc = .ok (.laload, 1)) (h : ∀ v : Int64, sm_S j k cs sl (pc + 1) lf (.long v :: st) (sm_m N S) (K v)) : sm_S j k cs sl pc lf (.int i :: .ref a :: st) (sm_m N S) (sm_rd (S.2.1 a) n i K) := by
  intro r hr nn g0 g p l e R s m args below meth c Q hC hx hn hQ H locs ls hM hS hL
  unfold sm_rd at hr
  split at hr
  · rename_i hi
    obtain ⟨h3, hs'⟩ := sm_sq_at (n := N) (S := S) hs
    have hw : (sm_w g (sm_m N S))[a - 3]? = some (g.1 a, .inl (g.2.2.2.2.2 .long, n, .inr (.inl (S.2.1 a)))) := sm_w_at hs' h3
    exact va_lald hC.1 hC.2.1 hC.2.2.2.2.2.2.2.2.2.1.1 hM.2.1 (a - 3) 1 hw rfl (sm_ix_in hi) hd (h _ r hr nn g0 g p l e R s m args below meth c Q hC hx hn hQ H locs ls hM hS hL)
  · cases hr
/-- a place of an array of cells that never change -/
theorem sd_aald {a n q : Nat} {ty : FieldType} {i : Int32} {K : Nat → Option ρ} (t0 : Nat) (hs : sm_sq a = some (.inl (ty, n))) (hk : sm_kd ty = 2) (hf : ty.isReference = true) (ht : ∀ g : sm_G, (sm_tys g)[t0]? = some (g.2.2.2.2.2 ty, ty)) (hr0 : ∀ (nw nx : Nat) (tx : Option Nat) (i : Nat), i < n → sm_r0 nw nx tx a i = some (q + i)) (hd : decode k.2.1 pc = .ok (.aaload, 1)) (h : ∀ b : Nat, sm_S j k cs sl (pc + 1) lf (.ref b :: st) (sm_m N S) (K b)) : sm_S j k cs sl pc lf (.int i :: .ref a :: st) (sm_m N S) (sm_rd (fun i => q + i) n i K) := by
  intro r hr nn g0 g p l e R s m args below meth c Q hC hx hn hQ H locs ls hM hS hL
  unfold sm_rd at hr
  split at hr
  · rename_i hi
    obtain ⟨h3, hs'⟩ := sm_sq_at (n := N) (S := S) hs
    have hw := sm_w_at (g := g) hs' h3
    simp only [sm_ce, sm_ar, hk] at hw
    have hin := sm_ix_in hi
    have hlt : i.toNatClampNeg < n := Nat.not_le.mp fun q => hin (Or.inr q)
    have hv : va_rf (((sm_m N S).2.2.2 a i.toNatClampNeg).map g.1) = .ref (g.1 (q + i.toNatClampNeg)) := by
      show va_rf ((sm_r0 S.2.2.1 S.2.2.2.1 S.2.2.2.2 a i.toNatClampNeg).map g.1) = _
      rw [hr0 _ _ _ _ hlt]
      rfl
    have hX := hC.2.2.2.2.2.2.2.2.2.1.1
    exact W.aald (v := .ref (g.1 (q + i.toNatClampNeg))) (ty := ty) hC.1 hC.2.1 (hM.2.1 (a - 3) _ hw) ((hX.2 t0 _ (ht g)).1 n (fun z => va_rf (((sm_m N S).2.2.2 a z).map g.1))) hf (fun q => by cases q) (by show ¬ (i < 0 ∨ (arrV _ _ _).slots.size ≤ _); rw [arrV_size]; exact hin) (by show (arrV _ _ _).slots[_]? = _; rw [arrV_read _ _ hlt, hv]) rfl rfl hd (h _ r hr nn g0 g p l e R s m args below meth c Q hC hx hn hQ H locs ls hM hS hL)
  · cases hr
theorem sd_iast {a n : Nat} {i x : Int32} {K : sm_t → Option ρ} (hs : sm_sq a = some (.inl (.int, n))) (hd : decode k.2.1 pc = .ok (.iastore, 1)) (h : ∀ S : sm_t, sm_S j k cs sl (pc + 1) lf st (sm_m N S) (K S)) : sm_S j k cs sl pc lf (.int x :: .int i :: .ref a :: st) (sm_m N S) (sm_wr S a n i x K) := by
  intro r hr nn g0 g p l e R s m args below meth c Q hC hx hn hQ H locs ls hM hS hL
  unfold sm_wr at hr
  split at hr
  · rename_i hi
    obtain ⟨h3, hs'⟩ := sm_sq_at (n := N) (S := S) hs
    have hw : (sm_w g (sm_m N S))[a - 3]? = some (g.1 a, .inl (g.2.2.2.2.2 .int, n, .inl (S.1 a))) := sm_w_at hs' h3
    refine va_iast hC.1 hC.2.1 hC.2.2.2.2.2.2.2.2.2.1.1 hM.2.1 hM.2.2 hS (a - 3) 0 hw rfl (sm_ix_in hi) hd (fun H1 locs1 hP1 hD1 hS1 => ?_)
    exact h _ r hr nn g0 g p l e R s m args below meth c Q hC hx hn hQ H1 locs1 ls (sm_R_set (M' := sm_m N (sm_wI S a i.toNatClampNeg x)) hM rfl (fun b hb => ⟨sm_up_o _ _ hb, rfl, rfl⟩) hs' h3 (by simp only [sm_ce, sm_ar, sm_kd, sm_m, sm_wI, sm_up_s]) hP1 hD1) hS1 hL
  · cases hr
theorem sd_bast {a n : Nat} {i x : Int32} {K : sm_t → Option ρ} (hs : sm_sq a = some (.inl (.byte, n))) (hd : decode k.2.1 pc = .ok (.bastore, 1)) (h : ∀ S : sm_t, sm_S j k cs sl (pc + 1) lf st (sm_m N S) (K S)) : sm_S j k cs sl pc lf (.int x :: .int i :: .ref a :: st) (sm_m N S) (sm_wr S a n i (vp_nar .byte x) K) := by
  intro r hr nn g0 g p l e R s m args below meth c Q hC hx hn hQ H locs ls hM hS hL
  unfold sm_wr at hr
  split at hr
  · rename_i hi
    obtain ⟨h3, hs'⟩ := sm_sq_at (n := N) (S := S) hs
    have hw : (sm_w g (sm_m N S))[a - 3]? = some (g.1 a, .inl (g.2.2.2.2.2 .byte, n, .inl (S.1 a))) := sm_w_at hs' h3
    refine va_bast hC.1 hC.2.1 hC.2.2.2.2.2.2.2.2.2.1.1 hM.2.1 hM.2.2 hS (a - 3) 2 hw rfl (sm_ix_in hi) hd (fun H1 locs1 hP1 hD1 hS1 => ?_)
    exact h _ r hr nn g0 g p l e R s m args below meth c Q hC hx hn hQ H1 locs1 ls (sm_R_set (M' := sm_m N (sm_wI S a i.toNatClampNeg (vp_nar .byte x))) hM rfl (fun b hb => ⟨sm_up_o _ _ hb, rfl, rfl⟩) hs' h3 (by simp only [sm_ce, sm_ar, sm_kd, sm_m, sm_wI, sm_up_s]) hP1 hD1) hS1 hL
  · cases hr
theorem sd_zast {a n : Nat} {i x : Int32} {K : sm_t → Option ρ} (hs : sm_sq a = some (.inl (.boolean, n))) (hd : decode k.2.1 pc = .ok (.bastore, 1)) (h : ∀ S : sm_t, sm_S j k cs sl (pc + 1) lf st (sm_m N S) (K S)) : sm_S j k cs sl pc lf (.int x :: .int i :: .ref a :: st) (sm_m N S) (sm_wr S a n i (vp_nar .boolean x) K) := by
  intro r hr nn g0 g p l e R s m args below meth c Q hC hx hn hQ H locs ls hM hS hL
  unfold sm_wr at hr
  split at hr
  · rename_i hi
    obtain ⟨h3, hs'⟩ := sm_sq_at (n := N) (S := S) hs
    have hw : (sm_w g (sm_m N S))[a - 3]? = some (g.1 a, .inl (g.2.2.2.2.2 .boolean, n, .inl (S.1 a))) := sm_w_at hs' h3
    refine va_zast hC.1 hC.2.1 hC.2.2.2.2.2.2.2.2.2.1.1 hM.2.1 hM.2.2 hS (a - 3) 3 hw rfl (sm_ix_in hi) hd (fun H1 locs1 hP1 hD1 hS1 => ?_)
    exact h _ r hr nn g0 g p l e R s m args below meth c Q hC hx hn hQ H1 locs1 ls (sm_R_set (M' := sm_m N (sm_wI S a i.toNatClampNeg (vp_nar .boolean x))) hM rfl (fun b hb => ⟨sm_up_o _ _ hb, rfl, rfl⟩) hs' h3 (by simp only [sm_ce, sm_ar, sm_kd, sm_m, sm_wI, sm_up_s]) hP1 hD1) hS1 hL
  · cases hr
theorem sd_last {a n : Nat} {i : Int32} {x : Int64} {K : sm_t → Option ρ} (hs : sm_sq a = some (.inl (.long, n))) (hd : decode k.2.1 pc = .ok (.lastore, 1)) (h : ∀ S : sm_t, sm_S j k cs sl (pc + 1) lf st (sm_m N S) (K S)) : sm_S j k cs sl pc lf (.long x :: .int i :: .ref a :: st) (sm_m N S) (sm_wl S a n i x K) := by
  intro r hr nn g0 g p l e R s m args below meth c Q hC hx hn hQ H locs ls hM hS hL
  unfold sm_wl at hr
  split at hr
  · rename_i hi
    obtain ⟨h3, hs'⟩ := sm_sq_at (n := N) (S := S) hs
    have hw : (sm_w g (sm_m N S))[a - 3]? = some (g.1 a, .inl (g.2.2.2.2.2 .long, n, .inr (.inl (S.2.1 a)))) := sm_w_at hs' h3
    refine va_last hC.1 hC.2.1 hC.2.2.2.2.2.2.2.2.2.1.1 hM.2.1 hM.2.2 hS (a - 3) 1 hw rfl (sm_ix_in hi) hd (fun H1 locs1 hP1 hD1 hS1 => ?_)
    exact h _ r hr nn g0 g p l e R s m args below meth c Q hC hx hn hQ H1 locs1 ls (sm_R_set (M' := sm_m N (sm_wL S a i.toNatClampNeg x)) hM rfl (fun b hb => ⟨rfl, sm_up_o _ _ hb, rfl⟩) hs' h3 (by simp only [sm_ce, sm_ar, sm_kd, sm_m, sm_wL, sm_up_s]) hP1 hD1) hS1 hL
  · cases hr
theorem sd_alen {a n : Nat} {ty : FieldType} (t0 : Nat) (v : Int32) (hs : sm_sq a = some (.inl (ty, n))) (ht : ∀ g : sm_G, (sm_tys g)[t0]? = some (g.2.2.2.2.2 ty, ty)) (hv : Int32.ofNat n = v) (hd : decode k.2.1 pc = .ok (.arraylength, 1)) (h : sm_S j k cs sl (pc + 1) lf (.int v :: st) (sm_m N S) o) : sm_S j k cs sl pc lf (.ref a :: st) (sm_m N S) o := by
  intro r hr nn g0 g p l e R s m args below meth c Q hC hx hn hQ H locs ls hM hS hL
  obtain ⟨h3, hs'⟩ := sm_sq_at (n := N) (S := S) hs
  have hw : (sm_w g (sm_m N S))[a - 3]? = some (g.1 a, .inl (g.2.2.2.2.2 ty, sm_ar g (sm_m N S) a ty n)) := sm_w_at hs' h3
  have hn1 : (sm_ar g (sm_m N S) a ty n).1 = n := by unfold sm_ar; split <;> rfl
  exact va_alen hC.1 hC.2.1 hC.2.2.2.2.2.2.2.2.2.1.1 hM.2.1 (a - 3) t0 hw (ht g) (v := v) (by rw [hn1]; exact hv) hd (h r hr nn g0 g p l e R s m args below meth c Q hC hx hn hQ H locs ls hM hS hL)
/-- a field's link: which slot of which of the classes -/
def sm_fl (own : String) (idx ci i : Nat) : Prop := ci < 8 ∧ i < sm_nf ci ∧ Cond.fieldLink own idx (sm_T ci i).1 (sm_T ci i).2.1 (sm_T ci i).2.2.1 ∈ sm_tb
theorem sm_fv_at {g : sm_G} {M : sm_M} {a ci i : Nat} (hi : i < sm_nf ci) : ((List.range (sm_nf ci)).map (sm_fv g M a ci))[i]? = some (sm_fv g M a ci i) := by
  rw [List.getElem?_map, List.getElem?_range hi]
  rfl
theorem sd_get {M : sm_M} {a idx ci i : Nat} {v : Value} (h3 : 3 ≤ a) (hs : M.1[a]? = some (.inr ci)) (hf : sm_fl k.1.cls idx ci i) (hv : ∀ g : sm_G, sm_fv g M a ci i = sm_tv g v) (hd : decode k.2.1 pc = .ok (.getfield idx, 3)) (h : sm_S j k cs sl (pc + 3) lf (v :: st) M o) : sm_S j k cs sl pc lf (.ref a :: st) M o := by
  intro r hr nn g0 g p l e R s m args below meth c Q hC hx hn hQ H locs ls hM hS hL
  obtain ⟨hc, hi, hl⟩ := hf
  refine va_get (v := sm_tv g v) hC.1 hC.2.1 hC.2.2.2.2.2.1 (sm_cl_in ci hc) hC.2.2.2.2.1 hC.2.2.2.2.2.2.2.2.2.1.1 hM.2.1 (a - 3) (sm_w_at hs h3) (sm_cl_at ci hc) i hi (hC.2.2.2.2.2.1 _ hl) (fun _ z => z) (by rw [sm_fv_at hi, hv g]) hd ?_
  exact h r hr nn g0 g p l e R s m args below meth c Q hC hx hn hQ H locs ls hM hS hL
theorem sd_getI {a idx ci i : Nat} {K : Int32 → Option ρ} (hs : sm_sq a = some (.inr ci)) (hk : sm_kd (sm_tf ci i) = 0) (hf : sm_fl k.1.cls idx ci i) (hd : decode k.2.1 pc = .ok (.getfield idx, 3)) (h : ∀ v : Int32, sm_S j k cs sl (pc + 3) lf (.int v :: st) (sm_m N S) (K v)) : sm_S j k cs sl pc lf (.ref a :: st) (sm_m N S) (sm_n (S.1 a i) K) :=
  sd_get (sm_sq_at (n := N) (S := S) hs).1 (sm_sq_at hs).2 hf (v := .int (S.1 a i)) (fun g => by simp only [sm_fv, hk]; rfl) hd (h _)
theorem sd_getL {a idx ci i : Nat} {K : Int64 → Option ρ} (hs : sm_sq a = some (.inr ci)) (hk : sm_kd (sm_tf ci i) = 1) (hf : sm_fl k.1.cls idx ci i) (hd : decode k.2.1 pc = .ok (.getfield idx, 3)) (h : ∀ v : Int64, sm_S j k cs sl (pc + 3) lf (.long v :: st) (sm_m N S) (K v)) : sm_S j k cs sl pc lf (.ref a :: st) (sm_m N S) (sm_n (S.2.1 a i) K) :=
  sd_get (sm_sq_at (n := N) (S := S) hs).1 (sm_sq_at hs).2 hf (v := .long (S.2.1 a i)) (fun g => by simp only [sm_fv, hk]; rfl) hd (h _)
theorem sd_getR {a idx ci i : Nat} (b : Nat) (hs : sm_sq a = some (.inr ci)) (hk : sm_kd (sm_tf ci i) = 2) (hf : sm_fl k.1.cls idx ci i) (hb : sm_r0 S.2.2.1 S.2.2.2.1 S.2.2.2.2 a i = some b) (hd : decode k.2.1 pc = .ok (.getfield idx, 3)) (h : sm_S j k cs sl (pc + 3) lf (.ref b :: st) (sm_m N S) o) : sm_S j k cs sl pc lf (.ref a :: st) (sm_m N S) o :=
  sd_get (sm_sq_at (n := N) (S := S) hs).1 (sm_sq_at hs).2 hf (v := .ref b) (fun g => by
    have hb' : (sm_m N S).2.2.2 a i = some b := hb
    simp only [sm_fv, hk, hb']; rfl) hd h
theorem sd_nr {M : sm_M} {x : Nat} {K : Nat → Option ρ} (h : ∀ y : Nat, sm_S j k cs sl pc lf (.ref y :: st) M (K y)) : sm_S j k cs sl pc lf (.ref x :: st) M (sm_n x K) := h x
theorem sd_getT {a idx ci i : Nat} {K : Nat → Option ρ} (hs : sm_sq a = some (.inr ci)) (hk : sm_kd (sm_tf ci i) = 2) (hf : sm_fl k.1.cls idx ci i) (hb : sm_r0 S.2.2.1 S.2.2.2.1 S.2.2.2.2 a i = S.2.2.2.2) (hd : decode k.2.1 pc = .ok (.getfield idx, 3)) (h : ∀ b : Nat, sm_S j k cs sl (pc + 3) lf (.ref b :: st) (sm_m N S) (K b)) : sm_S j k cs sl pc lf (.ref a :: st) (sm_m N S) (S.2.2.2.2.bind K) := by
  intro r hr
  cases ht : S.2.2.2.2 with
  | none => rw [ht] at hr; cases hr
  | some b =>
    rw [ht] at hr
    exact sd_getR b hs hk hf (hb.trans ht) hd (h b) r hr
theorem sd_put {M M' : sm_M} {a idx ci i : Nat} {v : Value} (h3 : 3 ≤ a) (hs : M.1[a]? = some (.inr ci)) (hf : sm_fl k.1.cls idx ci i) (hfin : (sm_T ci i).2.2.2 = false ∨ ((sm_T ci i).2.2.2 = true ∧ k.1.name = "<init>" ∧ (sm_T ci i).1 = k.1.cls)) (hn : ∀ g : sm_G, narrow (sm_tf ci i) (sm_tv g v) = sm_tv g v ∧ fits (sm_tf ci i) (sm_tv g v) = true) (hs2 : M'.1 = M.1) (ho : ∀ b, b ≠ a → M'.2.1 b = M.2.1 b ∧ M'.2.2.1 b = M.2.2.1 b ∧ M'.2.2.2 b = M.2.2.2 b) (hv : ∀ (g : sm_G) (x : Nat), x < sm_nf ci → sm_fv g M' a ci x = if x = i then sm_tv g v else sm_fv g M a ci x) (hd : decode k.2.1 pc = .ok (.putfield idx, 3)) (h : sm_S j k cs sl (pc + 3) lf st M' o) : sm_S j k cs sl pc lf (v :: .ref a :: st) M o := by
  intro r hr nn g0 g p l e R s m args below meth c Q hC hx hn2 hQ H locs ls hM hS hL
  obtain ⟨hc, hi, hl⟩ := hf
  have hw := sm_w_at (g := g) hs h3
  have hE : sm_ce g M' a (.inr ci) = .inr (ci, ((List.range (sm_nf ci)).map (sm_fv g M a ci)).set i (sm_tv g v)) := by
    simp only [sm_ce]
    congr 2
    apply List.ext_getElem?
    intro x
    by_cases hx2 : x < sm_nf ci
    · rw [sm_fv_at hx2, hv g x hx2]
      by_cases hxi : x = i
      · subst hxi
        rw [List.getElem?_set_self (by simpa using hx2), if_pos rfl]
      · rw [List.getElem?_set_ne (Ne.symm hxi), sm_fv_at hx2, if_neg hxi]
    · rw [List.getElem?_eq_none (by simpa using hx2), List.getElem?_eq_none (by simpa using hx2)]
  have kk : ∀ (H1 : Heap) (locs1 : List Loc), va_P g.2.2.2.2.1 sm_cl ((sm_w g M).set (a - 3) (g.1 a, .inr (ci, ((List.range (sm_nf ci)).map (sm_fv g M a ci)).set i (sm_tv g v)))) H1 → va_D (sm_A g) ((sm_w g M).set (a - 3) (g.1 a, .inr (ci, ((List.range (sm_nf ci)).map (sm_fv g M a ci)).set i (sm_tv g v)))) → va_S (sm_A g) s.heap H1 locs1 → W p l e R s m args below meth c H1 locs1 cs sl Q (F0 m (pc + 3) ls (st.map (sm_tv g))) := fun H1 locs1 hP1 hD1 hS1 =>
    h r hr nn g0 g p l e R s m args below meth c Q hC hx (by rw [hs2]; exact hn2) hQ H1 locs1 ls (sm_R_set hM hs2 ho hs h3 hE hP1 hD1) hS1 hL
  rcases hfin with hfin | ⟨hfin, hini, hown⟩
  · exact va_put hC.1 hC.2.1 hC.2.2.2.2.2.1 (sm_cl_in ci hc) (sm_tf ci) (sm_cl_ty ci hc) (sm_cl_nm ci hc) hC.2.2.2.2.1 hC.2.2.2.2.2.2.2.2.2.1.1 hM.2.1 hM.2.2 hS (a - 3) hw (sm_cl_at ci hc) i hi (hC.2.2.2.2.2.1 _ hl) (fun _ z => z) hfin (sm_cl_ty ci hc i hi) (hn g).1 (hn g).2 (by simpa using hi) hd kk
  · exact va_putF hC.1 hC.2.1 hC.2.2.2.2.2.1 (sm_cl_in ci hc) (sm_tf ci) (sm_cl_ty ci hc) (sm_cl_nm ci hc) hC.2.2.2.2.1 hC.2.2.2.2.2.2.2.2.2.1.1 hM.2.1 hM.2.2 hS (a - 3) hw (sm_cl_at ci hc) i hi (hC.2.2.2.2.2.1 _ hl) (fun _ z => z) hfin (hC.2.2.2.2.2.2.2.1.trans hini) hown (sm_cl_ty ci hc i hi) (hn g).1 (hn g).2 (by simpa using hi) hd kk
theorem sd_putI {a idx ci i : Nat} {x : Int32} {K : sm_t → Option ρ} (hs : sm_sq a = some (.inr ci)) (hk : sm_tf ci i = .int) (hf : sm_fl k.1.cls idx ci i) (hfin : (sm_T ci i).2.2.2 = false) (hd : decode k.2.1 pc = .ok (.putfield idx, 3)) (h : ∀ S : sm_t, sm_S j k cs sl (pc + 3) lf st (sm_m N S) (K S)) : sm_S j k cs sl pc lf (.int x :: .ref a :: st) (sm_m N S) (sm_n (sm_wI S a i x) K) :=
  sd_put (sm_sq_at (n := N) (S := S) hs).1 (sm_sq_at hs).2 hf (Or.inl hfin) (fun g => by rw [hk]; exact ⟨rfl, rfl⟩) (M' := sm_m N (sm_wI S a i x)) rfl (fun b hb => ⟨sm_up_o _ _ hb, rfl, rfl⟩) (fun g z hz => by
    by_cases e : z = i
    · subst e
      rw [if_pos rfl]
      simp only [sm_fv, hk, sm_kd, sm_m, sm_wI, sm_up_s, upd, if_pos]
      rfl
    · rw [if_neg e]
      simp only [sm_fv, sm_m, sm_wI, sm_up_s, upd, if_neg e]) hd (h _)
theorem sd_putZ {a idx ci i : Nat} {x : Int32} {K : sm_t → Option ρ} (hx : x = 0 ∨ x = 1) (hs : sm_sq a = some (.inr ci)) (hk : sm_tf ci i = .boolean) (hf : sm_fl k.1.cls idx ci i) (hfin : (sm_T ci i).2.2.2 = false) (hd : decode k.2.1 pc = .ok (.putfield idx, 3)) (h : ∀ S : sm_t, sm_S j k cs sl (pc + 3) lf st (sm_m N S) (K S)) : sm_S j k cs sl pc lf (.int x :: .ref a :: st) (sm_m N S) (sm_n (sm_wI S a i x) K) :=
  sd_put (sm_sq_at (n := N) (S := S) hs).1 (sm_sq_at hs).2 hf (Or.inl hfin) (fun g => by rw [hk]; rcases hx with rfl | rfl <;> exact ⟨rfl, rfl⟩) (M' := sm_m N (sm_wI S a i x)) rfl (fun b hb => ⟨sm_up_o _ _ hb, rfl, rfl⟩) (fun g z hz => by
    by_cases e : z = i
    · subst e
      rw [if_pos rfl]
      simp only [sm_fv, hk, sm_kd, sm_m, sm_wI, sm_up_s, upd, if_pos]
      rfl
    · rw [if_neg e]
      simp only [sm_fv, sm_m, sm_wI, sm_up_s, upd, if_neg e]) hd (h _)
theorem sd_putL {a idx ci i : Nat} {x : Int64} {K : sm_t → Option ρ} (hs : sm_sq a = some (.inr ci)) (hk : sm_tf ci i = .long) (hf : sm_fl k.1.cls idx ci i) (hfin : (sm_T ci i).2.2.2 = false) (hd : decode k.2.1 pc = .ok (.putfield idx, 3)) (h : ∀ S : sm_t, sm_S j k cs sl (pc + 3) lf st (sm_m N S) (K S)) : sm_S j k cs sl pc lf (.long x :: .ref a :: st) (sm_m N S) (sm_n (sm_wL S a i x) K) :=
  sd_put (sm_sq_at (n := N) (S := S) hs).1 (sm_sq_at hs).2 hf (Or.inl hfin) (fun g => by rw [hk]; exact ⟨rfl, rfl⟩) (M' := sm_m N (sm_wL S a i x)) rfl (fun b hb => ⟨rfl, sm_up_o _ _ hb, rfl⟩) (fun g z hz => by
    by_cases e : z = i
    · subst e
      rw [if_pos rfl]
      simp only [sm_fv, hk, sm_kd, sm_m, sm_wL, sm_up_s, vp_updL, if_pos]
      rfl
    · rw [if_neg e]
      simp only [sm_fv, sm_m, sm_wL, sm_up_s, vp_updL, if_neg e]) hd (h _)
/-- the three references that change: Odds.now, Odds.next, Reader.text -/
theorem sd_putR {S' : sm_t} {a idx ci i b : Nat} (hs : sm_sq a = some (.inr ci)) (hk : sm_kd (sm_tf ci i) = 2) (hk2 : ∀ v : Nat, narrow (sm_tf ci i) (.ref v) = .ref v ∧ fits (sm_tf ci i) (.ref v) = true) (hf : sm_fl k.1.cls idx ci i) (hfin : (sm_T ci i).2.2.2 = false) (h1 : S'.1 = S.1) (h2 : S'.2.1 = S.2.1) (ho : ∀ x, x ≠ a → (sm_m N S').2.2.2 x = (sm_m N S).2.2.2 x) (hr2 : ∀ x, x < sm_nf ci → (sm_m N S').2.2.2 a x = if x = i then some b else (sm_m N S).2.2.2 a x) (hd : decode k.2.1 pc = .ok (.putfield idx, 3)) (h : sm_S j k cs sl (pc + 3) lf st (sm_m N S') o) : sm_S j k cs sl pc lf (.ref b :: .ref a :: st) (sm_m N S) o :=
  sd_put (sm_sq_at (n := N) (S := S) hs).1 (sm_sq_at hs).2 hf (Or.inl hfin) (fun g => hk2 (g.1 b)) (M' := sm_m N S') rfl (fun x hx => ⟨congrFun h1 x, congrFun h2 x, ho x hx⟩) (fun g z hz => by
    have e1 : (sm_m N S').2.1 = (sm_m N S).2.1 := h1
    have e2 : (sm_m N S').2.2.1 = (sm_m N S).2.2.1 := h2
    by_cases e : z = i
    · subst e
      rw [if_pos rfl]
      simp only [sm_fv, hk, hr2 z hz, if_pos]
      rfl
    · rw [if_neg e]
      simp only [sm_fv, e1, e2, hr2 z hz, if_neg e]) hd h
end

