/-! ===== the small machine: memories, the world that they stand for, what it is that a piece of code is worth ===== -/
def sm_tb : List Cond := lw_tbl.filter goodWord
theorem sm_at (i : Nat) {w : Cond} (h : lw_tbl[i]? = some w) (hg : goodWord w = true) : w ∈ sm_tb := List.mem_filter.mpr ⟨List.mem_of_getElem? h, hg⟩
theorem sm_gi : GoodIn sm_tb sm_tb := fun w hw => ⟨hw, good_of_word (List.mem_filter.mp hw).2⟩
theorem sm_ly (C : String) (T : u_T) (N : Nat) (ps : List Nat) (h : u_ws C T N = ps.filterMap (fun i => lw_tbl[i]?)) (hg : (u_ws C T N).all goodWord = true) : ∀ w ∈ u_ws C T N, w ∈ sm_tb := fun w hw => by
  have h1 := List.all_eq_true.mp hg w hw
  rw [h] at hw
  obtain ⟨i, -, hi⟩ := List.mem_filterMap.mp hw
  exact sm_at i hi h1
abbrev sm_Sh : Type := List ((FieldType × Nat) ⊕ Nat)
abbrev sm_M : Type := sm_Sh × (Nat → Nat → Int32) × (Nat → Nat → Int64) × (Nat → Nat → Option Nat)
/-- where the numbers of cells lie, from where on cells are the run's own, the script, classes -/
abbrev sm_G : Type := (Nat → Nat) × Nat × Nat × (Nat → Int32) × va_G × (FieldType → ClassId)
def sm_A (g : sm_G) : Nat → Prop := fun q => g.2.1 ≤ q
def sm_tv (g : sm_G) (v : Value) : Value := match v with
  | .ref a => .ref (g.1 a)
  | w => w
theorem sm_tv_cat (g : sm_G) (v : Value) : (sm_tv g v).category = v.category := by cases v <;> rfl
def sm_cl : List vw_C := [(RX0, TX0, 2), (RX2, TX2, 9), (RX3, TX3, 4), (RX4, TX4, 6), (RX5, TX5, 4), (RX6, TX6, 5), (RX7, TX7, 16), (RX8, TX8, 30)]
def sm_nf (ci : Nat) : Nat := match ci with
  | 0 => 2 | 1 => 9 | 2 => 4 | 3 => 6 | 4 => 4 | 5 => 5 | 6 => 16 | 7 => 30 | _ => 0
def sm_tf (ci : Nat) : Nat → FieldType := match ci with
  | 0 => tyX0 | 1 => tyX2 | 2 => tyX3 | 3 => tyX4 | 4 => tyX5 | 5 => tyX6 | 6 => tyX7 | _ => tyX8
def sm_T (ci : Nat) : u_T := match ci with
  | 0 => TX0 | 1 => TX2 | 2 => TX3 | 3 => TX4 | 4 => TX5 | 5 => TX6 | 6 => TX7 | _ => TX8
def sm_Rn (ci : Nat) : String := match ci with
  | 0 => RX0 | 1 => RX2 | 2 => RX3 | 3 => RX4 | 4 => RX5 | 5 => RX6 | 6 => RX7 | _ => RX8
theorem sm_c8 {P : Nat → Prop} (h0 : P 0) (h1 : P 1) (h2 : P 2) (h3 : P 3) (h4 : P 4) (h5 : P 5) (h6 : P 6) (h7 : P 7) (ci : Nat) (h : ci < 8) : P ci := by
  match ci, h with
  | 0, _ => exact h0 | 1, _ => exact h1 | 2, _ => exact h2 | 3, _ => exact h3 | 4, _ => exact h4 | 5, _ => exact h5 | 6, _ => exact h6 | 7, _ => exact h7
theorem sm_cl_at : ∀ ci, ci < 8 → sm_cl[ci]? = some (sm_Rn ci, sm_T ci, sm_nf ci) := sm_c8 rfl rfl rfl rfl rfl rfl rfl rfl
theorem sm_cl_in : ∀ ci, ci < 8 → ∀ w ∈ u_ws (sm_Rn ci) (sm_T ci) (sm_nf ci), w ∈ sm_tb := sm_c8 (sm_ly _ _ _ _ sm_in0 (by decide +kernel)) (sm_ly _ _ _ _ sm_in2 (by decide +kernel)) (sm_ly _ _ _ _ sm_in3 (by decide +kernel)) (sm_ly _ _ _ _ sm_in4 (by decide +kernel)) (sm_ly _ _ _ _ sm_in5 (by decide +kernel)) (sm_ly _ _ _ _ sm_in6 (by decide +kernel)) (sm_ly _ _ _ _ sm_in7 (by decide +kernel)) (sm_ly _ _ _ _ sm_in8 (by decide +kernel))
theorem sm_cl_ty : ∀ ci, ci < 8 → ∀ k, k < sm_nf ci → parseFieldDescriptor (sm_T ci k).2.2.1 = some (sm_tf ci k) := sm_c8 tyX0_ok tyX2_ok tyX3_ok tyX4_ok tyX5_ok tyX6_ok tyX7_ok tyX8_ok
theorem sm_cl_nm : ∀ ci, ci < 8 → ∀ a, a < sm_nf ci → ∀ b, b < sm_nf ci → a ≠ b → (sm_T ci a).2.1 ≠ (sm_T ci b).2.1 := sm_c8 nmX0 nmX2 nmX3 nmX4 nmX5 nmX6 nmX7 nmX8
def sm_kd (ty : FieldType) : Nat := match ty with
  | .long => 1 | .object _ => 2 | .array _ => 2 | _ => 0
def sm_fv (g : sm_G) (M : sm_M) (a ci k : Nat) : Value := match sm_kd (sm_tf ci k) with
  | 0 => .int (M.2.1 a k)
  | 1 => .long (M.2.2.1 a k)
  | _ => va_rf ((M.2.2.2 a k).map g.1)
def sm_ar (g : sm_G) (M : sm_M) (a : Nat) (ty : FieldType) (n : Nat) : vp_A := match sm_kd ty with
  | 0 => (n, .inl (M.2.1 a))
  | 1 => (n, .inr (.inl (M.2.2.1 a)))
  | _ => (n, .inr (.inr (.inr (.inr (fun j => (M.2.2.2 a j).map g.1)))))
def sm_ce (g : sm_G) (M : sm_M) (a : Nat) (x : (FieldType × Nat) ⊕ Nat) : va_E := match x with
  | .inl q => .inl (g.2.2.2.2.2 q.1, sm_ar g M a q.1 q.2)
  | .inr ci => .inr (ci, (List.range (sm_nf ci)).map (sm_fv g M a ci))
def sm_w (g : sm_G) (M : sm_M) : va_W := (M.1.drop 3).zipIdx.map (fun q => (g.1 (q.2 + 3), sm_ce g M (q.2 + 3) q.1))
theorem sm_w_get (g : sm_G) (M : sm_M) (j : Nat) : (sm_w g M)[j]? = (M.1[j + 3]?).map (fun x => (g.1 (j + 3), sm_ce g M (j + 3) x)) := by
  unfold sm_w
  rw [List.getElem?_map, List.getElem?_zipIdx, List.getElem?_drop, Nat.add_comm 3 j]
  cases M.1[j + 3]? <;> simp
theorem sm_w_at {g : sm_G} {M : sm_M} {a : Nat} {x : (FieldType × Nat) ⊕ Nat} (h : M.1[a]? = some x) (h3 : 3 ≤ a) : (sm_w g M)[a - 3]? = some (g.1 a, sm_ce g M a x) := by
  rw [sm_w_get, Nat.sub_add_cancel h3, h]
  rfl
theorem sm_ce_eq {g : sm_G} {M M' : sm_M} {b : Nat} (h1 : M'.2.1 b = M.2.1 b) (h2 : M'.2.2.1 b = M.2.2.1 b) (h3 : M'.2.2.2 b = M.2.2.2 b) (x : (FieldType × Nat) ⊕ Nat) : sm_ce g M' b x = sm_ce g M b x := by
  cases x with
  | inl q => simp only [sm_ce, sm_ar, h1, h2, h3]
  | inr ci =>
    have e : sm_fv g M' b ci = sm_fv g M b ci := funext fun k => by simp only [sm_fv, h1, h2, h3]
    simp only [sm_ce, e]
theorem sm_w_set {g : sm_G} {M M' : sm_M} {a : Nat} {x : (FieldType × Nat) ⊕ Nat} {E : va_E} (hs : M'.1 = M.1) (ho : ∀ b, b ≠ a → M'.2.1 b = M.2.1 b ∧ M'.2.2.1 b = M.2.2.1 b ∧ M'.2.2.2 b = M.2.2.2 b) (h : M.1[a]? = some x) (h3 : 3 ≤ a) (hE : sm_ce g M' a x = E) : (sm_w g M).set (a - 3) (g.1 a, E) = sm_w g M' := by
  apply List.ext_getElem?
  intro j
  rw [sm_w_get g M' j, hs]
  by_cases e : j = a - 3
  · subst e
    rw [List.getElem?_set_self (List.getElem?_eq_some_iff.mp (sm_w_at (g := g) h h3)).1, Nat.sub_add_cancel h3, h, ← hE]
    rfl
  · rw [List.getElem?_set_ne (Ne.symm e), sm_w_get]
    have hb : j + 3 ≠ a := by omega
    obtain ⟨h1, h2, h4⟩ := ho _ hb
    cases M.1[j + 3]? with
    | none => rfl
    | some y => simp only [Option.map_some]; rw [sm_ce_eq h1 h2 h4]
/-- the two static arrays (cells 0, 1) and the script (cell 2) -/
def sm_sx : Nat → Int32 := fun j => ([0, 1, 1, 1, 0, -1, -1, -1] : List Int32).getD j 0
def sm_sy : Nat → Int32 := fun j => ([-1, -1, 0, 1, 1, 1, 0, -1] : List Int32).getD j 0
def sm_E (g : sm_G) (M : sm_M) : Prop := M.1[0]? = some (.inl (.int, 8)) ∧ M.1[1]? = some (.inl (.int, 8)) ∧ M.1[2]? = some (.inl (.int, g.2.2.1)) ∧ M.2.1 0 = sm_sx ∧ M.2.1 1 = sm_sy ∧ M.2.1 2 = g.2.2.2.1
def sm_R (g : sm_G) (M : sm_M) (H : Heap) : Prop := sm_E g M ∧ va_P g.2.2.2.2.1 sm_cl (sm_w g M) H ∧ va_D (sm_A g) (sm_w g M)
def sm_tys (g : sm_G) : List (ClassId × FieldType) := [.int, .long, .byte, .boolean, .array .int, .array .byte, .object "TwoFliers$Sign"].map (fun t => (g.2.2.2.2.2 t, t))
/-- links to private members of nest mates -/
def sm_nl : List (String × Nat × MethodName × String) := [("TwoFliers", 28, ⟨"TwoFliers$Odds", "<init>", "()V"⟩, "TwoFliers"), ("TwoFliers$Book", 21, ⟨"TwoFliers$Sign", "<init>", "()V"⟩, "TwoFliers"), ("TwoFliers", 53, ⟨"TwoFliers$Reader", "<init>", "()V"⟩, "TwoFliers"), ("TwoFliers", 60, ⟨"TwoFliers$Ship", "<init>", "()V"⟩, "TwoFliers"), ("TwoFliers$Sign", 30, ⟨"TwoFliers", "isWithin", "(II)Z"⟩, "TwoFliers"), ("TwoFliers$Plane", 43, ⟨"TwoFliers", "isWithin", "(II)Z"⟩, "TwoFliers")]
def sm_Nn (U : State) : Prop := (∀ q ∈ sm_nl, va_Nw (.methodLinkNest q.1 q.2.1 q.2.2.1 q.2.2.2) U) ∧ va_AO "TwoFliers$Sign" U ∧ (Cond.arrayOver (.array .int)).before #[] U = true ∧ (Cond.arrayOver (.array .byte)).before #[] U = true
theorem sm_Nn.warm {u U : State} (hW : u.WarmedH U.vm) (h : sm_Nn u) : sm_Nn U := ⟨fun q hq => (h.1 q hq).warmM hW, h.2.1.moved hW.alike, over_moved hW.alike h.2.2.1, over_moved hW.alike h.2.2.2⟩
theorem sm_Nn.same {u U : State} (hv : u.vm = U.vm) (h : sm_Nn u) : sm_Nn U := by
  have ha : u.vm.Alike U.vm := hv ▸ Vm.Alike.refl u.vm
  exact ⟨fun q hq => va_Nw.same rfl hv (h.1 q hq), h.2.1.moved ha, over_moved ha h.2.2.1, over_moved ha h.2.2.2⟩
def sm_X (g : sm_G) (U : State) (H : Heap) : Prop := va_K g.2.2.2.2.1 sm_cl (sm_tys g) U ∧ va_Z "TwoFliers$Chart" "STEP_X" "[I" (.ref (g.1 0)) (sm_A g) U H ∧ va_Z "TwoFliers$Chart" "STEP_Y" "[I" (.ref (g.1 1)) (sm_A g) U H ∧ va_T .int (g.1 0) 8 (fun j => .int (sm_sx j)) (sm_A g) U H ∧ va_T .int (g.1 1) 8 (fun j => .int (sm_sy j)) (sm_A g) U H ∧ va_X (g.1 2) g.2.2.1 g.2.2.2.1 U H ∧ g.1 2 < H.size ∧ ¬ sm_A g (g.1 2) ∧ sm_Nn U
theorem sm_X.kept {g : sm_G} {U : State} {H H1 : Heap} (h : sm_X g U H) (hz : H.size ≤ H1.size) (hq : ∀ a : Nat, a < H.size → ¬ sm_A g a → H1[a]? = H[a]?) : sm_X g U H1 := by
  obtain ⟨h1, h2, h3, h4, h5, h6, h7, h8, h9⟩ := h
  exact ⟨h1, h2.kept hq, h3.kept hq, h4.kept hq, h5.kept hq, h6.kept (hq _ h7 h8), Nat.lt_of_lt_of_le h7 hz, h8, h9⟩
theorem sm_X.moved {g : sm_G} {u U : State} {H : Heap} (hvm : u.vm.Alike U.vm) (hn : sm_Nn U) (h : sm_X g u H) : sm_X g U H := by
  obtain ⟨h1, h2, h3, h4, h5, h6, h7, h8, h9⟩ := h
  exact ⟨h1.moved hvm, h2.moved hvm, h3.moved hvm, h4.moved hvm, h5.moved hvm, h6.moved hvm, h7, h8, hn⟩
theorem sm_X.warm {g : sm_G} {u U : State} {H : Heap} (hW : u.WarmedH U.vm) (h : sm_X g u H) : sm_X g U H := h.moved hW.alike (h.2.2.2.2.2.2.2.2.warm hW)
/-- a method: name, bytes, locals, what it returns; frames, cells, slots that it may take -/
abbrev sm_K : Type := MethodName × ByteArray × Nat × Option FieldType × Nat × Nat × Nat
/-- a method's activation: the machine, its code, the tables, its room -/
def sm_C (k : sm_K) (g : sm_G) (p : Program) (R : Room) (s : State) (m : MethodId) (args : Array Value) (meth : Method) (c : Code) : Prop :=
  p.tables.exec = Jvm.exec ∧ c.code = k.2.1 ∧ meth.sig.returnType = k.2.2.2.1 ∧ c.maxLocals = k.2.2.1 ∧ s.vm.findClass k.1.cls = some m.cls ∧ (∀ w ∈ sm_tb, w.before args s = true) ∧ meth.locks = false ∧ meth.name = k.1.name ∧ g.2.1 ≤ s.heap.size ∧ sm_X g s s.heap ∧ k.2.2.2.2.1 ≤ R.frames ∧ 64 * k.2.2.2.2.1 ≤ R.locals ∧ k.2.2.2.2.2.1 ≤ R.cells ∧ k.2.2.2.2.2.2 ≤ R.slots
/-- the locals that are known -/
def sm_L (g : sm_G) (n : Nat) (lf : List (Option Value)) (ls : Array Slot) : Prop := ls.size = n ∧ lv_wf ls ∧ ∀ (i : Nat) (v : Value), lf[i]? = some (some v) → ls[i]? = some (.val (sm_tv g v))
def sm_ri (v : Option Value) : Instr := match v with
  | some (.int _) => .ireturn
  | some (.long _) => .lreturn
  | _ => .return_
/-- a grown map of the cells' places: the same on the old ones; a method that makes nothing leaves it -/
def sm_ext (k : sm_K) (n : Nat) (g g' : sm_G) : Prop := (∀ i, i < n → g'.1 i = g.1 i) ∧ g'.2 = g.2 ∧ (k.2.2.2.2.2.1 = 0 → g' = g)
/-- what is wanted at the end is had wherever the method returns with r -/
def sm_Q (k : sm_K) (n : Nat) (g : sm_G) (p : Program) (l : Launch) (e : Env) (R : Room) (s : State) (m : MethodId) (args : Array Value) (below : List Frame) (meth : Method) (c : Code) (Q : State → Prop) (r : Option Value × sm_M) : Prop :=
  ∀ (g' : sm_G) (H : Heap) (locs : List Loc) (ls : Array Slot) (pc cells slots : Nat), sm_ext k n g g' → sm_R g' r.2 H → va_S (sm_A g) s.heap H locs → cells ≤ k.2.2.2.2.2.1 → slots ≤ k.2.2.2.2.2.2 → decode k.2.1 pc = .ok (sm_ri r.1, 1) → (∀ v, r.1 = some (.int v) → k.2.2.2.1 = some .boolean → v = 0 ∨ v = 1) → W p l e R s m args below meth c H locs cells slots Q (F0 m pc ls r.1.toList)
/-- THE WORTH OF A PIECE OF CODE: from here on, with these locals, this stack, this memory, the method returns as o tells (if o tells anything) -/
def sm_S {ρ : Type} (j : ρ → Option Value × sm_M) (k : sm_K) (cells slots pc : Nat) (lf : List (Option Value)) (st : List Value) (M : sm_M) (o : Option ρ) : Prop :=
  ∀ r : ρ, o = some r → ∀ (n : Nat) (g0 g : sm_G) (p : Program) (l : Launch) (e : Env) (R : Room) (s : State) (m : MethodId) (args : Array Value) (below : List Frame) (meth : Method) (c : Code) (Q : State → Prop), sm_C k g p R s m args meth c → sm_ext k n g0 g → n ≤ M.1.length → sm_Q k n g0 p l e R s m args below meth c Q (j r) →
    ∀ (H : Heap) (locs : List Loc) (ls : Array Slot), sm_R g M H → va_S (sm_A g) s.heap H locs → sm_L g k.2.2.1 lf ls → W p l e R s m args below meth c H locs cells slots Q (F0 m pc ls (st.map (sm_tv g)))
def sm_ji : Int32 × sm_M → Option Value × sm_M := fun q => (some (.int q.1), q.2)
def sm_jl : Int64 × sm_M → Option Value × sm_M := fun q => (some (.long q.1), q.2)
def sm_jv : sm_M → Option Value × sm_M := fun q => (none, q)
