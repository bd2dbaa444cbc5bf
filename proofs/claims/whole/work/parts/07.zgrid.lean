/-! ===== new T[n][k], out of the model's own words ===== -/
/-- a row of K values v -/
def mg_row (c : ClassId) (K : Nat) (v : Value) : Cell := { cls := c, slots := Array.replicate K v, vm := .none }
/-- the outer array: the first i of its N places are laid with the cells behind h0 -/
def mg_out (c : ClassId) (N h0 i : Nat) : Cell := arrV c N (fun j => va_rf (if j < i then some (h0 + 1 + j) else none))
/-- what stands when i rows are made -/
def mg_st (s : State) (cA cy : ClassId) (N K : Nat) (v : Value) (i : Nat) : State := { s with heap := s.heap.push (mg_out cA N s.heap.size i) ++ Array.replicate i (mg_row cy K v), slotsUsed := s.slotsUsed + N + i * K }
theorem mg_size (s : State) (cA cy : ClassId) (N K : Nat) (v : Value) (i : Nat) : (mg_st s cA cy N K v i).heap.size = s.heap.size + 1 + i := by
  show (s.heap.push (mg_out cA N s.heap.size i) ++ Array.replicate i (mg_row cy K v)).size = _
  rw [Array.size_append, Array.size_push, Array.size_replicate]
theorem mg_old (s : State) (cA cy : ClassId) (N K : Nat) (v : Value) (i : Nat) {a : Nat} (h : a < s.heap.size) : (mg_st s cA cy N K v i).heap[a]? = s.heap[a]? := by
  show (s.heap.push (mg_out cA N s.heap.size i) ++ Array.replicate i (mg_row cy K v))[a]? = _
  rw [Array.getElem?_append_left (by rw [Array.size_push]; omega), Array.getElem?_push, if_neg (by omega)]
theorem mg_top (s : State) (cA cy : ClassId) (N K : Nat) (v : Value) (i : Nat) : (mg_st s cA cy N K v i).heap[s.heap.size]? = some (mg_out cA N s.heap.size i) := by
  show (s.heap.push (mg_out cA N s.heap.size i) ++ Array.replicate i (mg_row cy K v))[s.heap.size]? = _
  rw [Array.getElem?_append_left (by rw [Array.size_push]; omega), Array.getElem?_push, if_pos rfl]
theorem mg_in (s : State) (cA cy : ClassId) (N K : Nat) (v : Value) (i : Nat) {j : Nat} (h : j < i) : (mg_st s cA cy N K v i).heap[s.heap.size + 1 + j]? = some (mg_row cy K v) := by
  show (s.heap.push (mg_out cA N s.heap.size i) ++ Array.replicate i (mg_row cy K v))[s.heap.size + 1 + j]? = _
  rw [Array.getElem?_append_right (by rw [Array.size_push]; omega), Array.size_push, Array.getElem?_replicate, if_pos (by omega)]
theorem mg_out_zero (c : ClassId) (N h0 : Nat) : ({ cls := c, slots := Array.replicate N .null, vm := .none } : Cell) = mg_out c N h0 0 := by
  rw [arrV_new]
  exact congrArg (arrV c N) (funext fun j => by simp [va_rf])
theorem mg_out_succ (c : ClassId) (N h0 i : Nat) : (mg_out c N h0 i).setSlot i (.ref (h0 + 1 + i)) = mg_out c N h0 (i + 1) := by
  unfold mg_out
  rw [arrV_store]
  refine congrArg (arrV c N) (funext fun j => ?_)
  unfold updV
  by_cases e : j = i
  · rw [if_pos e, e, if_pos (Nat.lt_succ_self i)]
    rfl
  · rw [if_neg e]
    show va_rf (if j < i then some (h0 + 1 + j) else none) = _
    by_cases h : j < i
    · rw [if_pos h, if_pos (by omega)]
    · rw [if_neg h, if_neg (by omega)]
theorem mg_zero (s : State) (cA cy : ClassId) (N K : Nat) (v : Value) : s.pushCell { cls := cA, slots := Array.replicate N .null, vm := .none } = mg_st s cA cy N K v 0 := by
  rw [mg_out_zero cA N s.heap.size]
  unfold mg_st State.pushCell
  have h1 : (mg_out cA N s.heap.size 0).slots.size = N := arrV_size _ _ _
  rw [h1]
  simp
theorem mg_succ (s : State) (cA cy : ClassId) (N K : Nat) (v : Value) (i : Nat) : ((mg_st s cA cy N K v i).pushCell (mg_row cy K v)).setCell s.heap.size ((mg_out cA N s.heap.size i).setSlot i (.ref (s.heap.size + 1 + i))) = mg_st s cA cy N K v (i + 1) := by
  rw [mg_out_succ]
  have hs : (mg_row cy K v).slots.size = K := Array.size_replicate
  have hh : ((s.heap.push (mg_out cA N s.heap.size i) ++ Array.replicate i (mg_row cy K v)).push (mg_row cy K v)).setIfInBounds s.heap.size (mg_out cA N s.heap.size (i + 1)) = s.heap.push (mg_out cA N s.heap.size (i + 1)) ++ Array.replicate (i + 1) (mg_row cy K v) := by
    apply Array.ext_getElem?
    intro a
    rw [Array.getElem?_setIfInBounds]
    by_cases h0 : s.heap.size = a
    · rw [if_pos h0, ← h0, if_pos (by rw [Array.size_push, Array.size_append, Array.size_push]; omega), Array.getElem?_append_left (by rw [Array.size_push]; omega), Array.getElem?_push, if_pos rfl]
    · rw [if_neg h0, Array.getElem?_push, Array.size_append, Array.size_push, Array.size_replicate]
      by_cases h1 : a < s.heap.size
      · rw [if_neg (by omega), Array.getElem?_append_left (by rw [Array.size_push]; omega), Array.getElem?_append_left (by rw [Array.size_push]; omega), Array.getElem?_push, Array.getElem?_push, if_neg (by omega), if_neg (by omega)]
      · rw [Array.getElem?_append_right (ys := Array.replicate (i + 1) (mg_row cy K v)) (by rw [Array.size_push]; omega), Array.size_push, Array.getElem?_replicate]
        by_cases h2 : a = s.heap.size + 1 + i
        · rw [if_pos h2, if_pos (by omega)]
        · rw [if_neg h2, Array.getElem?_append_right (by rw [Array.size_push]; omega), Array.size_push, Array.getElem?_replicate]
          by_cases h3 : a - (s.heap.size + 1) < i
          · rw [if_pos h3, if_pos (by omega)]
          · rw [if_neg h3, if_neg (by omega)]
  unfold mg_st State.pushCell State.setCell
  rw [hs]
  simp only [hh]
  congr 1
  rw [Nat.succ_mul]
  omega
section MGS
variable {p : Program} {l : Launch} {e : Env} {R : Room} {s : State} {m : MethodId} {args : Array Value} {below : List Frame} {meth : Method} {c : Code} {T : State} {locs : List Loc} {cells slots : Nat}
theorem mg_stand (X : Stand p l e R s m args below meth c T locs cells slots) (cA cy : ClassId) (N K : Nat) (v : Value) : ∀ i : Nat, Stand p l e R s m args below meth c (mg_st T cA cy N K v i) locs (cells + 1 + i) (slots + N + i * K)
  | 0 => by
    have h := X.pushed { cls := cA, slots := Array.replicate N .null, vm := .none }
    rw [mg_zero T cA cy N K v] at h
    simpa using h
  | i + 1 => by
    have h1 := (mg_stand X cA cy N K v i).pushed (mg_row cy K v)
    have hc : ((mg_st T cA cy N K v i).pushCell (mg_row cy K v)).heap[T.heap.size]? = some (mg_out cA N T.heap.size i) := by
      have hl : T.heap.size < (mg_st T cA cy N K v i).heap.size := by rw [mg_size]; omega
      rw [State.heap_pushCell_of_lt (h := hl)]
      exact mg_top T cA cy N K v i
    have h2 := h1.stored hc i (.ref (T.heap.size + 1 + i))
    rw [mg_succ] at h2
    have h3 := h2.forget (fun y hy => by
      rw [List.mem_singleton.mp hy]
      exact X.same.2.1)
    have hs : (mg_row cy K v).slots.size = K := Array.size_replicate
    rw [hs] at h3
    rw [Nat.succ_mul, ← Nat.add_assoc (slots + N)]
    exact h3
end MGS
section MGW
variable {E : CtlPost} {e : Env} {d : Bool} {acts : List Action} {s : State}
/-- a new array, within all limits -/
theorem mg_new {c comp : ClassId} {k : Class} {ty : FieldType} {n : Nat} {v : Value} {Q : Addr → Pre} (hk : s.vm.classes[c]? = some k) (hkind : k.kind = .array comp ty) (h1 : ¬ n > e.platform.arrayLengthLimit) (h2 : ¬ n * componentBytes ty > e.platform.maxHeapBytes)
    (h3 : s.heap.size < e.platform.maxCells) (h4 : s.slotsUsed + n ≤ e.platform.maxSlots) (hf : fits ty v = true) (hq : ∀ acts', Q s.heap.size d acts' (s.pushCell { cls := c, slots := Array.replicate n v, vm := .none })) : wp (newArray c n v) Q E e d acts s := by
  have h5 : ¬ n > e.platform.maxSlots := by omega
  have hfit : ∀ i w, (Array.replicate n v)[i]? = some w → s.fitsSlot c .none i w = true := by
    intro i w hw
    rw [Array.getElem?_replicate] at hw
    split at hw
    · cases hw
      simp [State.fitsSlot, State.slotType?, hk, hkind, hf]
    · cases hw
  simp [newArray, arrayFits, hk, hkind, h1, h2, h5]
  exact ⟨by omega, by omega, hfit, hq _⟩
/-- the rows inside: one dimension -/
theorem mg_make1 {c comp : ClassId} {k : Class} {ty : FieldType} {n : Int32} {Q : Addr → Pre} (hn : ¬ n < 0) (hk : s.vm.classes[c]? = some k) (hkind : k.kind = .array comp ty) (h1 : ¬ n.toNatClampNeg > e.platform.arrayLengthLimit) (h2 : ¬ n.toNatClampNeg * componentBytes ty > e.platform.maxHeapBytes)
    (h3 : s.heap.size < e.platform.maxCells) (h4 : s.slotsUsed + n.toNatClampNeg ≤ e.platform.maxSlots) (hf : fits ty (defaultValue ty) = true) (hq : ∀ acts', Q s.heap.size d acts' (s.pushCell (mg_row c n.toNatClampNeg (defaultValue ty)))) : wp (multianewarray.make c [n]) Q E e d acts s := by
  simp [multianewarray.make, hn, hk, hkind]
  exact mg_new hk hkind h1 h2 h3 h4 hf hq
/-- two dimensions -/
theorem mg_make2 {cA cy comp : ClassId} {kA ky : Class} {ty : FieldType} {n k : Int32} {Q : Addr → Pre} (hn : ¬ n < 0) (hk : ¬ k < 0) (hkA : s.vm.classes[cA]? = some kA) (hA : kA.kind = .array cy (.array ty)) (hky : s.vm.classes[cy]? = some ky) (hy : ky.kind = .array comp ty)
    (h1 : ¬ n.toNatClampNeg > e.platform.arrayLengthLimit) (h2 : ¬ n.toNatClampNeg * componentBytes (.array ty) > e.platform.maxHeapBytes) (g1 : ¬ k.toNatClampNeg > e.platform.arrayLengthLimit) (g2 : ¬ k.toNatClampNeg * componentBytes ty > e.platform.maxHeapBytes)
    (h3 : s.heap.size + (1 + n.toNatClampNeg) ≤ e.platform.maxCells) (h4 : s.slotsUsed + (n.toNatClampNeg + n.toNatClampNeg * k.toNatClampNeg) ≤ e.platform.maxSlots) (hf : fits ty (defaultValue ty) = true)
    (hq : ∀ d' acts', Q s.heap.size d' acts' (mg_st s cA cy n.toNatClampNeg k.toNatClampNeg (defaultValue ty) n.toNatClampNeg)) : wp (multianewarray.make cA [n, k]) Q E e d acts s := by
  simp only [multianewarray.make, wp_bind']
  simp [hn, hk, hkA, hA]
  sorry
end MGW
