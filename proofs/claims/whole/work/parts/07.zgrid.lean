/-! ===== new T[n][k], out of the model's own words ===== -/
/-- a row of K values v -/
def mg_row (c : ClassId) (K : Nat) (v : Value) : Cell := { cls := c, slots := Array.replicate K v, vm := .none }
/-- the outer array: the first i of its N places are laid with the cells behind h0 -/
def mg_out (c : ClassId) (N h0 i : Nat) : Cell := arrV c N (fun j => va_rf (if j < i then some (h0 + 1 + j) else none))
/-- what stands when i rows are made -/
def mg_st (s : State) (cA cy : ClassId) (N K : Nat) (v : Value) (i : Nat) : State := { s with heap := s.heap.push (mg_out cA N s.heap.size i) ++ Array.replicate i (mg_row cy K v), slotsUsed := s.slotsUsed + N + i * K }
theorem mg_size (s : State) (cA cy : ClassId) (N K : Nat) (v : Value) (i : Nat) : (mg_st s cA cy N K v i).heap.size = s.heap.size + 1 + i := by
  show (s.heap.push (mg_out cA N s.heap.size i) ++ Array.replicate i (mg_row cy K v)).size = _
  rw [Array.size_append, Array.size_push, Array.size_replicate]
theorem mg_old (s : State) (cA cy : ClassId) (N K : Nat) (v : Value) (i : Nat) {a : Nat} (h : a < s.heap.size) : (mg_st s cA cy N K v i).heap[a]? = s.heap[a]? := by
  show (s.heap.push (mg_out cA N s.heap.size i) ++ Array.replicate i (mg_row cy K v))[a]? = _
  rw [Array.getElem?_append_left (by rw [Array.size_push]; omega), Array.getElem?_push, if_neg (by omega)]
theorem mg_top (s : State) (cA cy : ClassId) (N K : Nat) (v : Value) (i : Nat) : (mg_st s cA cy N K v i).heap[s.heap.size]? = some (mg_out cA N s.heap.size i) := by
  show (s.heap.push (mg_out cA N s.heap.size i) ++ Array.replicate i (mg_row cy K v))[s.heap.size]? = _
  rw [Array.getElem?_append_left (by rw [Array.size_push]; omega), Array.getElem?_push, if_pos rfl]
theorem mg_in (s : State) (cA cy : ClassId) (N K : Nat) (v : Value) (i : Nat) {j : Nat} (h : j < i) : (mg_st s cA cy N K v i).heap[s.heap.size + 1 + j]? = some (mg_row cy K v) := by
  show (s.heap.push (mg_out cA N s.heap.size i) ++ Array.replicate i (mg_row cy K v))[s.heap.size + 1 + j]? = _
  rw [Array.getElem?_append_right (by rw [Array.size_push]; omega), Array.size_push, Array.getElem?_replicate, if_pos (by omega)]
theorem mg_out_zero (c : ClassId) (N h0 : Nat) : ({ cls := c, slots := Array.replicate N .null, vm := .none } : Cell) = mg_out c N h0 0 := by
  rw [arrV_new]
  exact congrArg (arrV c N) (funext fun j => by simp [va_rf])
theorem mg_out_succ (c : ClassId) (N h0 i : Nat) : (mg_out c N h0 i).setSlot i (.ref (h0 + 1 + i)) = mg_out c N h0 (i + 1) := by
  unfold mg_out
  rw [arrV_store]
  refine congrArg (arrV c N) (funext fun j => ?_)
  unfold updV
  by_cases e : j = i
  · rw [if_pos e, e, if_pos (Nat.lt_succ_self i)]
    rfl
  · rw [if_neg e]
    show va_rf (if j < i then some (h0 + 1 + j) else none) = _
    by_cases h : j < i
    · rw [if_pos h, if_pos (by omega)]
    · rw [if_neg h, if_neg (by omega)]
theorem mg_zero (s : State) (cA cy : ClassId) (N K : Nat) (v : Value) : s.pushCell { cls := cA, slots := Array.replicate N .null, vm := .none } = mg_st s cA cy N K v 0 := by
  rw [mg_out_zero cA N s.heap.size]
  unfold mg_st State.pushCell
  have h1 : (mg_out cA N s.heap.size 0).slots.size = N := arrV_size _ _ _
  rw [h1]
  simp
theorem mg_succ (s : State) (cA cy : ClassId) (N K : Nat) (v : Value) (i : Nat) : ((mg_st s cA cy N K v i).pushCell (mg_row cy K v)).setCell s.heap.size ((mg_out cA N s.heap.size i).setSlot i (.ref (s.heap.size + 1 + i))) = mg_st s cA cy N K v (i + 1) := by
  rw [mg_out_succ]
  have hs : (mg_row cy K v).slots.size = K := Array.size_replicate
  have hh : ((s.heap.push (mg_out cA N s.heap.size i) ++ Array.replicate i (mg_row cy K v)).push (mg_row cy K v)).setIfInBounds s.heap.size (mg_out cA N s.heap.size (i + 1)) = s.heap.push (mg_out cA N s.heap.size (i + 1)) ++ Array.replicate (i + 1) (mg_row cy K v) := by
    apply Array.ext_getElem?
    intro a
    rw [Array.getElem?_setIfInBounds]
    by_cases h0 : s.heap.size = a
    · rw [if_pos h0, ← h0, if_pos (by rw [Array.size_push, Array.size_append, Array.size_push]; omega), Array.getElem?_append_left (by rw [Array.size_push]; omega), Array.getElem?_push, if_pos rfl]
    · rw [if_neg h0, Array.getElem?_push, Array.size_append, Array.size_push, Array.size_replicate]
      by_cases h1 : a < s.heap.size
      · rw [if_neg (by omega), Array.getElem?_append_left (by rw [Array.size_push]; omega), Array.getElem?_append_left (by rw [Array.size_push]; omega), Array.getElem?_push, Array.getElem?_push, if_neg (by omega), if_neg (by omega)]
      · rw [Array.getElem?_append_right (ys := Array.replicate (i + 1) (mg_row cy K v)) (by rw [Array.size_push]; omega), Array.size_push, Array.getElem?_replicate]
        by_cases h2 : a = s.heap.size + 1 + i
        · rw [if_pos h2, if_pos (by omega)]
        · rw [if_neg h2, Array.getElem?_append_right (by rw [Array.size_push]; omega), Array.size_push, Array.getElem?_replicate]
          by_cases h3 : a - (s.heap.size + 1) < i
          · rw [if_pos h3, if_pos (by omega)]
          · rw [if_neg h3, if_neg (by omega)]
  unfold mg_st State.pushCell State.setCell
  rw [hs]
  simp only [hh]
  congr 1
  rw [Nat.succ_mul]
  omega
section MGS
variable {p : Program} {l : Launch} {e : Env} {R : Room} {s : State} {m : MethodId} {args : Array Value} {below : List Frame} {meth : Method} {c : Code} {T : State} {locs : List Loc} {cells slots : Nat}
theorem mg_stand (X : Stand p l e R s m args below meth c T locs cells slots) (cA cy : ClassId) (N K : Nat) (v : Value) : ∀ i : Nat, Stand p l e R s m args below meth c (mg_st T cA cy N K v i) locs (cells + 1 + i) (slots + N + i * K)
  | 0 => by
    have h := X.pushed { cls := cA, slots := Array.replicate N .null, vm := .none }
    rw [mg_zero T cA cy N K v] at h
    simpa using h
  | i + 1 => by
    have h1 := (mg_stand X cA cy N K v i).pushed (mg_row cy K v)
    have hc : ((mg_st T cA cy N K v i).pushCell (mg_row cy K v)).heap[T.heap.size]? = some (mg_out cA N T.heap.size i) := by
      have hl : T.heap.size < (mg_st T cA cy N K v i).heap.size := by rw [mg_size]; omega
      rw [State.heap_pushCell_of_lt (h := hl)]
      exact mg_top T cA cy N K v i
    have h2 := h1.stored hc i (.ref (T.heap.size + 1 + i))
    rw [mg_succ] at h2
    have h3 := h2.forget (fun y hy => by
      rw [List.mem_singleton.mp hy]
      exact X.same.2.1)
    have hs : (mg_row cy K v).slots.size = K := Array.size_replicate
    rw [hs] at h3
    rw [Nat.succ_mul, ← Nat.add_assoc (slots + N)]
    exact h3
end MGS
section MGW
variable {E : CtlPost} {e : Env} {d : Bool} {acts : List Action} {s : State}
/-- a new array, within all limits -/
theorem mg_new {c comp : ClassId} {k : Class} {ty : FieldType} {n : Nat} {v : Value} {Q : Addr → Pre} (hk : s.vm.classes[c]? = some k) (hkind : k.kind = .array comp ty) (h1 : ¬ n > e.platform.arrayLengthLimit) (h2 : ¬ n * componentBytes ty > e.platform.maxHeapBytes)
    (h3 : s.heap.size < e.platform.maxCells) (h4 : s.slotsUsed + n ≤ e.platform.maxSlots) (hf : fits ty v = true) (hq : ∀ acts', Q s.heap.size d acts' (s.pushCell { cls := c, slots := Array.replicate n v, vm := .none })) : wp (newArray c n v) Q E e d acts s := by
  have h5 : ¬ n > e.platform.maxSlots := by omega
  have hfit : ∀ i w, (Array.replicate n v)[i]? = some w → s.fitsSlot c .none i w = true := by
    intro i w hw
    rw [Array.getElem?_replicate] at hw
    split at hw
    · cases hw
      simp [State.fitsSlot, State.slotType?, hk, hkind, hf]
    · cases hw
  simp [newArray, arrayFits, hk, hkind, h1, h2, h5]
  exact ⟨by omega, by omega, hfit, hq _⟩
/-- the rows inside: one dimension -/
theorem mg_make1 {c comp : ClassId} {k : Class} {ty : FieldType} {n : Int32} {Q : Addr → Pre} (hn : ¬ n < 0) (hk : s.vm.classes[c]? = some k) (hkind : k.kind = .array comp ty) (h1 : ¬ n.toNatClampNeg > e.platform.arrayLengthLimit) (h2 : ¬ n.toNatClampNeg * componentBytes ty > e.platform.maxHeapBytes)
    (h3 : s.heap.size < e.platform.maxCells) (h4 : s.slotsUsed + n.toNatClampNeg ≤ e.platform.maxSlots) (hf : fits ty (defaultValue ty) = true) (hq : ∀ acts', Q s.heap.size d acts' (s.pushCell (mg_row c n.toNatClampNeg (defaultValue ty)))) : wp (multianewarray.make c [n]) Q E e d acts s := by
  simp [multianewarray.make, hn, hk, hkind]
  exact mg_new hk hkind h1 h2 h3 h4 hf hq
/-- two dimensions -/
theorem mg_make2 {cA cy comp : ClassId} {kA ky : Class} {ty : FieldType} {n k : Int32} {Q : Addr → Pre} (hn : ¬ n < 0) (hk : ¬ k < 0) (hkA : s.vm.classes[cA]? = some kA) (hA : kA.kind = .array cy (.array ty)) (hky : s.vm.classes[cy]? = some ky) (hy : ky.kind = .array comp ty)
    (h1 : ¬ n.toNatClampNeg > e.platform.arrayLengthLimit) (h2 : ¬ n.toNatClampNeg * componentBytes (.array ty) > e.platform.maxHeapBytes) (g1 : ¬ k.toNatClampNeg > e.platform.arrayLengthLimit) (g2 : ¬ k.toNatClampNeg * componentBytes ty > e.platform.maxHeapBytes)
    (h3 : s.heap.size + (1 + n.toNatClampNeg) ≤ e.platform.maxCells) (h4 : s.slotsUsed + (n.toNatClampNeg + n.toNatClampNeg * k.toNatClampNeg) ≤ e.platform.maxSlots) (hf : fits ty (defaultValue ty) = true)
    (hq : ∀ d' acts', Q s.heap.size d' acts' (mg_st s cA cy n.toNatClampNeg k.toNatClampNeg (defaultValue ty) n.toNatClampNeg)) : wp (multianewarray.make cA [n, k]) Q E e d acts s := by
  simp only [multianewarray.make, wp_bind']
  simp [hn, hk, hkA, hA]
  refine mg_new hkA hA h1 h2 (by omega) (by omega) rfl (fun acts' => ?_)
  rw [mg_zero s cA cy n.toNatClampNeg k.toNatClampNeg (defaultValue ty)]
  rw [wp_map]
  refine wp_forIn_inv (fun rest u => ∃ i, i ≤ n.toNatClampNeg ∧ rest = List.range' i (n.toNatClampNeg - i) ∧ u = mg_st s cA cy n.toNatClampNeg k.toNatClampNeg (defaultValue ty) i) _ _ ⟨0, Nat.zero_le _, rfl, rfl⟩ ?_ ?_
  · intro x rest u d1 acts1 Q1 hI hQ1
    obtain ⟨i, hi, hr, rfl⟩ := hI
    have hlt : i < n.toNatClampNeg := by
      by_cases h : i < n.toNatClampNeg
      · exact h
      · rw [show n.toNatClampNeg - i = 0 by omega] at hr
        cases hr
    rw [show n.toNatClampNeg - i = (n.toNatClampNeg - (i + 1)) + 1 by omega, List.range'_succ] at hr
    injection hr with hx hrest
    subst hx
    have hmul : (x + 1) * k.toNatClampNeg ≤ n.toNatClampNeg * k.toNatClampNeg := Nat.mul_le_mul_right _ hlt
    rw [Nat.succ_mul] at hmul
    have hky' : (mg_st s cA cy n.toNatClampNeg k.toNatClampNeg (defaultValue ty) x).vm.classes[cy]? = some ky := hky
    have hkA' : (mg_st s cA cy n.toNatClampNeg k.toNatClampNeg (defaultValue ty) x).vm.classes[cA]? = some kA := hkA
    simp only [wp_bind', Jvm.W.theClass]
    refine ⟨ky, hky', ?_⟩
    rw [hy]
    refine mg_new hky' hy g1 g2 (by rw [mg_size]; omega) (by show s.slotsUsed + n.toNatClampNeg + x * k.toNatClampNeg + k.toNatClampNeg ≤ _; omega) hf (fun acts2 => ?_)
    rw [wp_map, mg_size]
    have hl : s.heap.size < (mg_st s cA cy n.toNatClampNeg k.toNatClampNeg (defaultValue ty) x).heap.size := by rw [mg_size]; omega
    refine ⟨mg_out cA n.toNatClampNeg s.heap.size x, ?_, ?_, ?_, ?_, ?_⟩
    · rw [State.heap_pushCell_of_lt (h := hl)]
      exact mg_top _ _ _ _ _ _ _
    · intro h
      cases h
    · rw [show (mg_out cA n.toNatClampNeg s.heap.size x).slots.size = n.toNatClampNeg from arrV_size _ _ _]
      exact hlt
    · show State.fitsSlot ((mg_st s cA cy n.toNatClampNeg k.toNatClampNeg (defaultValue ty) x).pushCell _) cA .none x _ = true
      simp [State.fitsSlot, State.slotType?, hkA', hA, fits]
    · exact hQ1 _ _ _ ⟨x + 1, hlt, hrest, mg_succ s cA cy n.toNatClampNeg k.toNatClampNeg (defaultValue ty) x⟩
  · intro u d1 acts1 hI
    obtain ⟨i, hi, hr, rfl⟩ := hI
    have he : i = n.toNatClampNeg := by
      have h := congrArg List.length hr
      rw [List.length_range', List.length_nil] at h
      omega
    rw [he]
    exact hq _ _
end MGW
section MGI
variable {p : Program} {l : Launch} {e : Env} {R : Room} {s : State} {m : MethodId} {args : Array Value} {below : List Frame} {meth : Method} {c : Code} {T : State} {locs : List Loc} {cells slots : Nat}
/-- the instruction, its class entry being ready -/
theorem mg_sem {E : CtlPost} {d : Bool} {acts : List Action} {f : JFrame} {index : Nat} {cA cy comp : ClassId} {kA ky : Class} {ty : FieldType} {n k : Int32} {rest : List Value} {Q : Unit → Pre} (hs : T.topJava?.isSome) (hr : T.vm.classReady f.method.cls index cA) (hstack : f.stack = .int k :: .int n :: rest)
    (hn : ¬ n < 0) (hk : ¬ k < 0) (hkA : T.vm.classes[cA]? = some kA) (hA : kA.kind = .array cy (.array ty)) (hky : T.vm.classes[cy]? = some ky) (hy : ky.kind = .array comp ty)
    (h1 : ¬ n.toNatClampNeg > e.platform.arrayLengthLimit) (h2 : ¬ n.toNatClampNeg * componentBytes (.array ty) > e.platform.maxHeapBytes) (g1 : ¬ k.toNatClampNeg > e.platform.arrayLengthLimit) (g2 : ¬ k.toNatClampNeg * componentBytes ty > e.platform.maxHeapBytes)
    (h3 : T.heap.size + (1 + n.toNatClampNeg) ≤ e.platform.maxCells) (h4 : T.slotsUsed + (n.toNatClampNeg + n.toNatClampNeg * k.toNatClampNeg) ≤ e.platform.maxSlots) (hf : fits ty (defaultValue ty) = true)
    (hq : ∀ d' acts', Q () d' acts' ((mg_st T cA cy n.toNatClampNeg k.toNatClampNeg (defaultValue ty) n.toNatClampNeg).setTop { f with stack := .ref T.heap.size :: rest })) : wp (multianewarray.sem index 2) Q E e d acts (T.setTop f) := by
  simp [multianewarray.sem, Jvm.W.resolveClassAt_ready (State.method?_setTop f hs) hr, popN, hs, hstack]
  refine mg_make2 (s := T.setTop { f with stack := rest }) hn hk hkA hA hky hy h1 h2 g1 g2 h3 h4 hf (fun d' acts' => ?_)
  have hc : mg_st (T.setTop { f with stack := rest }) cA cy n.toNatClampNeg k.toNatClampNeg (defaultValue ty) n.toNatClampNeg = (mg_st T cA cy n.toNatClampNeg k.toNatClampNeg (defaultValue ty) n.toNatClampNeg).setTop { f with stack := rest } := rfl
  have hs' : (mg_st T cA cy n.toNatClampNeg k.toNatClampNeg (defaultValue ty) n.toNatClampNeg).topJava?.isSome := hs
  rw [hc]
  refine ⟨{ f with stack := rest }, State.topJava?_setTop' _ hs', ?_⟩
  rw [State.setTop_setTop]
  exact hq _ _
/-- its class entry, at its first use -/
theorem mg_cold {E : CtlPost} {d : Bool} {acts : List Action} {f : JFrame} {index cA : Nat} {vm' : Vm} {Q : Unit → Pre} (hs : T.topJava?.isSome) (hg : (Jvm.resolveClass f.method.cls index).Gives e.toSetting T.vm (.ok cA) vm') (hr : vm'.classReady f.method.cls index cA) (hsz : vm'.classes.size ≤ T.vm.classes.size) :
    wp (multianewarray.sem index 2) Q E e d acts (T.setTop f) ↔ wp (multianewarray.sem index 2) Q E e d acts ((T.setVm vm').setTop f) := by
  simp only [multianewarray.sem, wp_bind']
  exact Jvm.W.resolveClassAt_transfer (s := T.setTop f) (State.method?_setTop f hs) hg hr hsz
/-- 'multianewarray' of two dimensions, as the walk takes it -/
theorem mg_multi (X : Stand p l e R s m args below meth c T locs cells slots) (hexec : p.tables.exec = Jvm.exec) {own : String} {index : Nat} {ty : FieldType} (hown : s.vm.findClass own = some m.cls) (hclink : (Cond.classLink own index ("[" ++ (FieldType.array ty).toString)).before args s = true)
    (hover : (Cond.arrayOver (.array ty)).before args s = true) (harr : (Cond.arrayClass ty).before args s = true) {g : JFrame} (hg : g.method = m) (hdg : decode c.code g.pc = .ok (.multianewarray index 2, 4)) {n k : Int32} {rest : List Value} (hstack : g.stack = .int k :: .int n :: rest)
    (hn : ¬ n < 0) (hk : ¬ k < 0) (hb1 : n.toNatClampNeg * 4 ≤ 536870912) (hb2 : k.toNatClampNeg * componentBytes ty ≤ 536870912) (hb3 : k.toNatClampNeg ≤ 536870912) (hf : fits ty (defaultValue ty) = true)
    (hcells : cells + (1 + n.toNatClampNeg) ≤ R.cells) (hslots : slots + (n.toNatClampNeg + n.toNatClampNeg * k.toNatClampNeg) ≤ R.slots) :
    ∃ (vm₁ : Vm) (cA cy : ClassId), s.vm.findClass ("[" ++ (FieldType.array ty).toString) = some cA ∧ s.vm.findClass (FieldType.array ty).toString = some cy ∧ ArrOfT s cA (.array ty) ∧
      Stand p l e R s m args below meth c (mg_st (T.setVm vm₁) cA cy n.toNatClampNeg k.toNatClampNeg (defaultValue ty) n.toNatClampNeg) locs (cells + 1 + n.toNatClampNeg) (slots + n.toNatClampNeg + n.toNatClampNeg * k.toNatClampNeg) ∧
      ∀ target, Steps p.tables e below ((mg_st (T.setVm vm₁) cA cy n.toNatClampNeg k.toNatClampNeg (defaultValue ty) n.toNatClampNeg).setTop { g with pc := g.pc + 4, stack := .ref T.heap.size :: rest }) target → Steps p.tables e below (T.setTop g) target := by
  subst hg
  have hpl : e.platform.magicAccessors = ({} : Platform).magicAccessors := by rw [X.admits.platform]
  obtain ⟨cy, cA, kA, hcy, -, hkA, hkindA, hnameA⟩ := arrayOverA_spec hover
  obtain ⟨cy', ky, comp, hcy', hky, hkindy⟩ := Cond.arrayClass_spec harr
  have hyy : some cy = some cy' := hcy.symm.trans hcy'
  cases hyy
  obtain ⟨cA', hcA', hcl⟩ := Cond.classLink_spec hown hclink e.platform hpl
  cases hnameA.symm.trans hcA'
  obtain ⟨hg₁, hwarm₁, hready₁⟩ := State.classEntry (e := e) X.warmed hcl
  generalize T.vm.noted g.method.cls index (.cls cA) = vm₁ at hg₁ hwarm₁ hready₁
  have hal : s.vm.Alike vm₁ := hwarm₁.alike
  obtain ⟨kA₁, hkA₁, heA⟩ := hal.2.2 _ _ hkA
  obtain ⟨ky₁, hky₁, hey⟩ := hal.2.2 _ _ hky
  have hkindA₁ : kA₁.kind = .array cy (.array ty) := by rw [heA]; exact hkindA
  have hkindy₁ : ky₁.kind = .array comp ty := by rw [hey]; exact hkindy
  have h1 : ¬ n.toNatClampNeg > e.platform.arrayLengthLimit := by rw [Launch.admits_arrayLengthLimit X.admits]; omega
  have h2 : ¬ n.toNatClampNeg * componentBytes (.array ty) > e.platform.maxHeapBytes := by
    rw [Launch.admits_maxHeapBytes X.admits]; show ¬ n.toNatClampNeg * 4 > 536870912; omega
  have g1 : ¬ k.toNatClampNeg > e.platform.arrayLengthLimit := by rw [Launch.admits_arrayLengthLimit X.admits]; omega
  have g2 : ¬ k.toNatClampNeg * componentBytes ty > e.platform.maxHeapBytes := by rw [Launch.admits_maxHeapBytes X.admits]; omega
  obtain ⟨hr1, hr2⟩ := X.roomAbove hcells hslots
  refine ⟨vm₁, cA, cy, hnameA, hcy, fun n9 z9 => ⟨(fun q hq => by cases hq), kA, hkA, cy, hkindA⟩, mg_stand (X.noted hwarm₁) cA cy _ _ _ _, fun target hrest => ?_⟩
  refine Steps.instr (c := _) (by simpa using X.here) ?_
  simp [jvm, wpRun, exec, X.here.top, hexec, hdg]
  refine (mg_cold (f := g) X.here.top hg₁ hready₁ (by no_record)).mpr ?_
  refine mg_sem (T := T.setVm vm₁) (f := g) X.here.top hready₁ hstack hn hk hkA₁ hkindA₁ hky₁ hkindy₁ h1 h2 g1 g2 hr1 hr2 hf (fun d' acts' acts'' => ?_)
  rw [afterInstr_ok]
  exact hrest
end MGI
