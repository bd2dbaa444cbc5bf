/-! THE CLAIM OUT OF ONE WALK OF THE LAW'S BODY. Your part is whole_start (and what it stands on); all else here is the same for every law, but numbers. -/
def R_law : String := "TwoFliersLaw"
def lw_P (b : Addr) (xs : List Int32) (args : Array Value) (s : State) : Prop := args = #[.ref b] ∧ s.IntsAt b xs ∧ xs.length ≤ 3072 ∧ (Jvm.Cond.and given_1 narrow_1).before args s = true
def lw_Q (_ : Array Value) (s : State) (o : Outcome) (t : State) : Prop := o = .returned (some (.int 1)) ∧ Framed s o t [] 600000 7302250
def lw_Z (below : List Frame) (a : Array Value) (s : State) : State → Prop := fun t => ∃ o, t.status = .running ∧ Ended t below o ∧ lw_Q a s o t
/-- the law's own end, with 1 on the stack, nothing written that was there before, its room as the claim has it -/
theorem lw_ret {p : Program} {l : Launch} {e : Env} {s : State} {m : MethodId} {below : List Frame} {meth : Method} {c : Code} {b : Nat} (hx : p.tables.exec = Jvm.exec) (hb : c.code = code) (hr : meth.sig.returnType = ret) (hlocks : meth.locks = false) {pc : Nat} {H : Heap} {ls : Array Slot} (hdg : decode code pc = .ok (.ireturn, 1)) : W p l e room_1 s m #[Value.ref b] below meth c H [] 600000 7302250 (lw_Z below #[Value.ref b] s) (F0 m pc ls [.int 1]) := by
  intro T hT X
  obtain ⟨fs, hret, hrun, hended, hW, hframe⟩ := X.leave (v := some (.int 1)) (hlocks := hlocks) (fun h => by rw [hr] at h; cases h)
  have hmeth' : T.vm.method? m = some meth := X.method'
  refine ⟨T.setFrames fs, ?_, .returned (some (.int 1)), hrun, hended, rfl, ⟨_, rfl⟩, hW, hframe⟩
  jvm_step X.here [X.here.top, hx, hb, hdg, hmeth', hr, ret, narrow_b1]
  (try refine ⟨rfl, ?_⟩); (try refine ⟨rfl, ?_⟩)
  first | (intro acts; rw [hret _ acts rfl rfl rfl]) | rw [hret _ _ rfl rfl rfl]
  exact Steps.refl _
/-- what holds at the law's entry: the machine, the code, the tables' words (any of lw_tbl by 'hts w (by decide +kernel)'), the script of L ints xs at the cell b, what the Statement gives of the start (any of its parts by flat_of_before) -/
def lw_At (p : Program) (s : State) (m : MethodId) (meth : Method) (c : Code) (b L : Nat) (xs : Nat → Int32) : Prop :=
  p.tables.exec = Jvm.exec ∧ c.code = code ∧ meth.sig.returnType = ret ∧ c.maxLocals = 4 ∧ s.vm.findClass R_law = some m.cls ∧ (∀ w ∈ lw_tbl, w.before #[Value.ref b] s = true) ∧ va_X b L xs s s.heap ∧ b < s.heap.size ∧ meth.locks = false ∧ (Jvm.Cond.and given_1 narrow_1).before #[Value.ref b] s = true
def sm_T0 (xs : Nat → Int32) : sc_t := (fun a => if a = 0 then sm_sx else if a = 1 then sm_sy else if a = 2 then xs else fun _ => 0, fun _ _ => 0, fun _ _ => none)
theorem lw_arrP {s : State} {ty : FieldType} {args : Array Value} (h : (Cond.arrayClass ty).before args s = true) (hp : ∀ C, ty ≠ .object C) : ∃ cA : ClassId, ArrOfT s cA ty ∧ va_RA s cA ty := by
  obtain ⟨c, k, comp, h1, h2, h3⟩ := Cond.arrayClass_spec h
  refine ⟨c, fun n z => ⟨fun k h => (by cases h), k, h2, comp, h3⟩, ?_⟩
  cases ty with
  | object C => exact absurd rfl (hp C)
  | _ => exact h1
theorem lw_arrA {s : State} {ty : FieldType} {args : Array Value} (h : (Cond.arrayOver (.array ty)).before args s = true) : ∃ cA : ClassId, ArrOfT s cA (.array ty) ∧ va_RA s cA (.array ty) := by
  obtain ⟨comp, c, k, h1, h2, h3, h4, h5⟩ := arrayOverA_spec h
  exact ⟨c, fun n z => ⟨fun k h => (by cases h), k, h3, comp, h4⟩, h5⟩
theorem lw_arrO {s : State} {C : String} {args : Array Value} (h : (Cond.arrayOver (.object C)).before args s = true) : ∃ cA : ClassId, ArrOfT s cA (.object C) ∧ va_RA s cA (.object C) := by
  obtain ⟨comp, c, k, h1, h2, h3, h4, h5⟩ := Cond.arrayOver_spec h
  exact ⟨c, fun n z => ⟨fun k h => (by cases h), k, h3, comp, h4⟩, k, comp, h3, h4, h1, h5⟩
theorem lw_step {s : State} {args : Array Value} {f : String} {vs : Nat → Int32} {A : Nat → Prop} (hA : ∀ a : Nat, a < s.heap.size → ¬ A a) (hl : (Cond.laysStatic "TwoFliers$Chart" f "[I").before args s = true) (hini : (Cond.initialized "TwoFliers$Chart").before args s = true) (harr : (Cond.arrayOf (.static "TwoFliers$Chart" f "[I") .int).before args s = true) (hlen : (Cond.eq (.length (.static "TwoFliers$Chart" f "[I")) (.int 8)).before args s = true) (he : ∀ i : Nat, i < 8 → (Cond.eq (.elem (.static "TwoFliers$Chart" f "[I") (.int (Int32.ofNat i))) (.int (vs i))).before args s = true) : ∃ t : Nat, va_Z "TwoFliers$Chart" f "[I" (.ref t) A s s.heap ∧ va_T .int t 8 (fun j => .int (vs j)) A s s.heap := by
  obtain ⟨t, h1, h2⟩ := va_Tof (N := 8) (f := fun j => .int (vs j)) (A := A) (by decide) harr (va_eqt hlen) (fun i hi => va_eqt (he i hi)) hA
  exact ⟨t, va_Zof hl hini h1 hA, h2⟩
set_option maxHeartbeats 4000000 in
set_option maxRecDepth 100000 in
/-- what stands at the law's entry, as the small machine wants it -/
theorem lw_ctx {p : Program} {s : State} {m : MethodId} {meth : Method} {c : Code} {b L : Nat} {xs : Nat → Int32} (C0 : lw_At p s m meth c b L xs) (hnm : meth.name = "law") : ∃ g : sm_G, g.1 2 = b ∧ g.2.1 = s.heap.size ∧ g.2.2.1 = L ∧ g.2.2.2.1 = xs ∧ sm_C kL_law g p room_1 s m #[Value.ref b] meth c := by
  obtain ⟨hx, hb, hr, hml, hown, hts, hX, hbl, hlocks, hgv⟩ := C0
  have hA : ∀ a : Nat, a < s.heap.size → ¬ (fun q : Nat => s.heap.size ≤ q) a := fun a h => Nat.not_le.mpr h
  have hq : ∀ w ∈ sm_tb, w.before #[Value.ref b] s = true := fun w hw => hts w (List.mem_filter.mp hw).1
  have hs := flat_of_before _ hgv
  obtain ⟨c0, i0, k0⟩ := u_known (C := sm_Rn 0) (T := sm_T 0) (N := sm_nf 0) (n := 2) hq (sm_cl_in 0 (by decide)) (hq _ (ci0).1)
  obtain ⟨c1, i1, k1⟩ := u_known (C := sm_Rn 1) (T := sm_T 1) (N := sm_nf 1) (n := 9) hq (sm_cl_in 1 (by decide)) (hq _ (ci2).1)
  obtain ⟨c2, i2, k2⟩ := u_known (C := sm_Rn 2) (T := sm_T 2) (N := sm_nf 2) (n := 4) hq (sm_cl_in 2 (by decide)) (hq _ (ci3).1)
  obtain ⟨c3, i3, k3⟩ := u_known (C := sm_Rn 3) (T := sm_T 3) (N := sm_nf 3) (n := 6) hq (sm_cl_in 3 (by decide)) (hq _ (ci4).1)
  obtain ⟨c4, i4, k4⟩ := u_known (C := sm_Rn 4) (T := sm_T 4) (N := sm_nf 4) (n := 4) hq (sm_cl_in 4 (by decide)) (hq _ (ci5).1)
  obtain ⟨c5, i5, k5⟩ := u_known (C := sm_Rn 5) (T := sm_T 5) (N := sm_nf 5) (n := 5) hq (sm_cl_in 5 (by decide)) (hq _ (ci6).1)
  obtain ⟨c6, i6, k6⟩ := u_known (C := sm_Rn 6) (T := sm_T 6) (N := sm_nf 6) (n := 16) hq (sm_cl_in 6 (by decide)) (hq _ (ci7).1)
  obtain ⟨c7, i7, k7⟩ := u_known (C := sm_Rn 7) (T := sm_T 7) (N := sm_nf 7) (n := 30) hq (sm_cl_in 7 (by decide)) (hq _ (ci8).1)
  obtain ⟨a0, b0, e0⟩ := lw_arrP (ty := .int) (hq _ ac_int) (fun _ h => by cases h)
  obtain ⟨a1, b1, e1⟩ := lw_arrP (ty := .long) (hq _ ac_long) (fun _ h => by cases h)
  obtain ⟨a2, b2, e2⟩ := lw_arrP (ty := .byte) (hq _ ac_byte) (fun _ h => by cases h)
  obtain ⟨a3, b3, e3⟩ := lw_arrP (ty := .boolean) (hq _ ac_boolean) (fun _ h => by cases h)
  have o1 : (Cond.arrayOver (.array .int)).before #[Value.ref b] s = true := hts _ (List.mem_of_getElem? (i := 91) (by decide +kernel))
  have o2 : (Cond.arrayOver (.array .byte)).before #[Value.ref b] s = true := hts _ (List.mem_of_getElem? (i := 93) (by decide +kernel))
  have o3 : (Cond.arrayOver (.object "TwoFliers$Sign")).before #[Value.ref b] s = true := hts _ (List.mem_of_getElem? (i := 136) (by decide +kernel))
  obtain ⟨a4, b4, e4⟩ := lw_arrA o1
  obtain ⟨a5, b5, e5⟩ := lw_arrA o2
  obtain ⟨a6, b6, e6⟩ := lw_arrO o3
  have hini := hts (.initialized "TwoFliers$Chart") (List.mem_of_getElem? (i := 79) (by decide +kernel))
  obtain ⟨tx, zx, yx⟩ := lw_step (f := "STEP_X") (vs := sm_sx) hA (hts _ (List.mem_of_getElem? (i := 464) (by decide +kernel))) hini (hs _ (by decide +kernel)) (hs _ (by decide +kernel)) (fun i hi => by
    match i, hi with
    | 0, _ => exact hs _ (by decide +kernel)
    | 1, _ => exact hs _ (by decide +kernel)
    | 2, _ => exact hs _ (by decide +kernel)
    | 3, _ => exact hs _ (by decide +kernel)
    | 4, _ => exact hs _ (by decide +kernel)
    | 5, _ => exact hs _ (by decide +kernel)
    | 6, _ => exact hs _ (by decide +kernel)
    | 7, _ => exact hs _ (by decide +kernel))
  obtain ⟨ty, zy, yy⟩ := lw_step (f := "STEP_Y") (vs := sm_sy) hA (hts _ (List.mem_of_getElem? (i := 466) (by decide +kernel))) hini (hs _ (by decide +kernel)) (hs _ (by decide +kernel)) (fun i hi => by
    match i, hi with
    | 0, _ => exact hs _ (by decide +kernel)
    | 1, _ => exact hs _ (by decide +kernel)
    | 2, _ => exact hs _ (by decide +kernel)
    | 3, _ => exact hs _ (by decide +kernel)
    | 4, _ => exact hs _ (by decide +kernel)
    | 5, _ => exact hs _ (by decide +kernel)
    | 6, _ => exact hs _ (by decide +kernel)
    | 7, _ => exact hs _ (by decide +kernel))
  have hNn : sm_Nn s := by
    refine ⟨?_, o3, o1, o2⟩
    intro q hq2
    simp only [sm_nl, List.mem_cons, List.not_mem_nil, or_false] at hq2
    rcases hq2 with rfl | rfl | rfl | rfl | rfl | rfl
    · exact va_Nw.of rfl (hts _ (List.mem_of_getElem? (i := 96) (by decide +kernel)))
    · exact va_Nw.of rfl (hts _ (List.mem_of_getElem? (i := 138) (by decide +kernel)))
    · exact va_Nw.of rfl (hts _ (List.mem_of_getElem? (i := 212) (by decide +kernel)))
    · exact va_Nw.of rfl (hts _ (List.mem_of_getElem? (i := 240) (by decide +kernel)))
    · exact va_Nw.of rfl (hts _ (List.mem_of_getElem? (i := 494) (by decide +kernel)))
    · exact va_Nw.of rfl (hts _ (List.mem_of_getElem? (i := 825) (by decide +kernel)))
  refine ⟨(fun i => match i with | 0 => tx | 1 => ty | _ => b, s.heap.size, L, xs, (fun i => match i with | 0 => c0 | 1 => c1 | 2 => c2 | 3 => c3 | 4 => c4 | 5 => c5 | 6 => c6 | _ => c7, fun i => match i with | 0 => i0 | 1 => i1 | 2 => i2 | 3 => i3 | 4 => i4 | 5 => i5 | 6 => i6 | _ => i7), fun t => match t with | .int => a0 | .long => a1 | .byte => a2 | .boolean => a3 | .array .int => a4 | .array .byte => a5 | _ => a6), rfl, rfl, rfl, rfl, ?_⟩
  refine ⟨hx, hb, hr, hml, hown, hq, hlocks, hnm, Nat.le_refl _, ⟨⟨?_, ?_⟩, zx, zy, yx, yy, hX, hbl, Nat.not_le.mpr hbl, hNn⟩, Nat.le_of_ble_eq_true rfl, Nat.le_of_ble_eq_true rfl, Nat.le_of_ble_eq_true rfl, Nat.le_of_ble_eq_true rfl⟩
  · intro i q h
    have hl : i < 8 := (List.getElem?_eq_some_iff.mp h).1
    have h2 := (sm_cl_at i hl).symm.trans h
    cases h2
    match i, hl with
    | 0, _ => exact k0
    | 1, _ => exact k1
    | 2, _ => exact k2
    | 3, _ => exact k3
    | 4, _ => exact k4
    | 5, _ => exact k5
    | 6, _ => exact k6
    | 7, _ => exact k7
  · intro i q h
    have hl : i < 7 := (List.getElem?_eq_some_iff.mp h).1
    match i, hl, h with
    | 0, _, h => cases h; exact ⟨b0, e0⟩
    | 1, _, h => cases h; exact ⟨b1, e1⟩
    | 2, _, h => cases h; exact ⟨b2, e2⟩
    | 3, _, h => cases h; exact ⟨b3, e3⟩
    | 4, _, h => cases h; exact ⟨b4, e4⟩
    | 5, _, h => cases h; exact ⟨b5, e5⟩
    | 6, _, h => cases h; exact ⟨b6, e6⟩

