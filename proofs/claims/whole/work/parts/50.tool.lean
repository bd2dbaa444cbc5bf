/-! ===== reading the printed functions: tools ===== -/
theorem tt_n {α ρ : Type} (x : α) (K : α → Option ρ) : sm_n x K = K x := rfl
theorem tt_cI {ρ : Type} (v : Int32) (S : sm_t) (K : Int32 → sm_t → Option ρ) : sm_cI (some (v, S)) K = K v S := rfl
theorem tt_cL {ρ : Type} (v : Int64) (S : sm_t) (K : Int64 → sm_t → Option ρ) : sm_cL (some (v, S)) K = K v S := rfl
theorem tt_cV {ρ : Type} (S : sm_t) (K : sm_t → Option ρ) : sm_cV (some S) K = K S := rfl
theorem tt_ix {x : Int32} {n : Nat} : sm_ix x n = true ↔ 0 ≤ x.toInt ∧ x.toInt < n := by
  simp only [sm_ix, Bool.and_eq_true, decide_eq_true_eq, Int32.lt_iff_toInt_lt, Int32.toNatClampNeg]
  have h0 : (0 : Int32).toInt = 0 := rfl
  rw [h0]
  omega
theorem tt_ixI {j n : Nat} (h : j < n) (hn : n < 2 ^ 31) : sm_ix (nI j) n = true := by
  rw [tt_ix, nI_toInt (by omega)]
  omega
theorem tt_of {x : Int32} {n : Nat} (h : sm_ix x n = true) (hn : n < 2 ^ 31) : ∃ j : Nat, j < n ∧ x = nI j := vp_in_of (sm_ix_in h) hn
theorem tt_rd {α ρ : Type} {f : Nat → α} {n j : Nat} {K : α → Option ρ} (h : j < n) (hn : n < 2 ^ 31) : sm_rd f n (nI j) K = K (f j) := by
  unfold sm_rd
  rw [if_pos (tt_ixI h hn), nI_clamp (by omega)]
theorem tt_wr {ρ : Type} {S : sm_t} {a n j : Nat} {x : Int32} {K : sm_t → Option ρ} (h : j < n) (hn : n < 2 ^ 31) : sm_wr S a n (nI j) x K = K (sm_wI S a j x) := by
  unfold sm_wr
  rw [if_pos (tt_ixI h hn), nI_clamp (by omega)]
theorem tt_wl {ρ : Type} {S : sm_t} {a n j : Nat} {x : Int64} {K : sm_t → Option ρ} (h : j < n) (hn : n < 2 ^ 31) : sm_wl S a n (nI j) x K = K (sm_wL S a j x) := by
  unfold sm_wl
  rw [if_pos (tt_ixI h hn), nI_clamp (by omega)]
theorem tt_an {ρ : Type} {ty : FieldType} {a n : Nat} {K : Nat → Option ρ} (h : sm_sq a = some (.inl (ty, n))) : sm_an ty a K = K n := by
  unfold sm_an
  rw [h]
  exact if_pos rfl
theorem tt_on {ρ : Type} {ci a : Nat} {o : Option ρ} (h : sm_sq a = some (.inr ci)) : sm_on ci a o = o := if_pos h
theorem tt_sq_row : ∀ j, j < 6 → sm_sq (5 + j) = some (.inl (.int, 40)) := by decide
theorem tt_sq_text : ∀ j, j < 4 → sm_sq (13 + j) = some (.inl (.byte, 80)) := by decide
theorem tt_sq_sign : ∀ j, j < 12 → sm_sq (24 + j) = some (.inr 5) := by decide
theorem tt_sq_story : ∀ j, j < 3 → sm_sq (37 + j) = some (.inl (.int, 120)) := by decide
theorem tt_1 {S : sm_t} {a b i : Nat} {x : Int32} (h : b ≠ a) : (sm_wI S a i x).1 b = S.1 b := sm_up_o _ _ h
theorem tt_1s {S : sm_t} {a i k : Nat} {x : Int32} : (sm_wI S a i x).1 a k = if k = i then x else S.1 a k := by
  show va_up S.1 a (upd (S.1 a) i x) a k = _
  rw [sm_up_s]
  rfl
theorem tt_2 {S : sm_t} {a i : Nat} {x : Int32} : (sm_wI S a i x).2 = S.2 := rfl
theorem tt_3 {S : sm_t} {a i : Nat} {x : Int64} : (sm_wL S a i x).1 = S.1 := rfl
theorem tt_4 {S : sm_t} {a b i : Nat} {x : Int64} (h : b ≠ a) : (sm_wL S a i x).2.1 b = S.2.1 b := sm_up_o _ _ h
theorem tt_4s {S : sm_t} {a i k : Nat} {x : Int64} : (sm_wL S a i x).2.1 a k = if k = i then x else S.2.1 a k := by
  show va_up S.2.1 a (vp_updL (S.2.1 a) i x) a k = _
  rw [sm_up_s]
  rfl
theorem tt_5 {S : sm_t} {a i : Nat} {x : Int64} : (sm_wL S a i x).2.2 = S.2.2 := rfl
/-! whole numbers out of ints -/
theorem tt_lt {x y : Int32} : x < y ↔ x.toInt < y.toInt := Int32.lt_iff_toInt_lt
theorem tt_le {x y : Int32} : x ≤ y ↔ x.toInt ≤ y.toInt := Int32.le_iff_toInt_le
theorem tt_eq {x y : Int32} : x = y ↔ x.toInt = y.toInt := Int32.toInt_inj.symm
theorem tt_nI {n : Nat} (h : n < 2147483648) : (nI n).toInt = (n : Int) := nI_toInt (by omega)
