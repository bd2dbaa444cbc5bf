/-! ===== returns, calls, static arrays, System.arraycopy, Math ===== -/
def sm_en (n : Nat) (as : List Value) : List (Option Value) := (as.flatMap (fun v => if v.category = 2 then [some v, none] else [some v])) ++ List.replicate (n - (as.flatMap (fun v => if v.category = 2 then [some v, none] else [some v])).length) none
/-- a method's worth, from its entry -/
def sm_P {ρ : Type} (j : ρ → Option Value × sm_M) (k : sm_K) (as : List Value) (M : sm_M) (o : Option ρ) : Prop := sm_S j k 0 0 0 (sm_en k.2.2.1 as) [] M o
def sm_B (g : sm_G) (M : sm_M) (U : State) : Prop := g.2.1 ≤ U.heap.size ∧ sm_X g U U.heap ∧ sm_R g M U.heap
def sm_Qc (k : sm_K) (n : Nat) (g : sm_G) (r : Option Value × sm_M) : Array Value → State → Outcome → State → Prop := fun _ st oc t => oc = .returned r.1 ∧ (∃ g' : sm_G, sm_ext k n g g' ∧ sm_B g' r.2 t) ∧ va_F (sm_A g) st t
def sm_rm (k : sm_K) : Room := { frames := k.2.2.2.2.1, cells := k.2.2.2.2.2.1, slots := k.2.2.2.2.2.2, locals := 64 * k.2.2.2.2.1 }
def sm_ro (ty : Option FieldType) (v : Option Value) : Prop := match v with
  | some (.int _) => ty = some .int ∨ ty = some .boolean
  | some (.long _) => ty = some .long
  | none => ty = none
  | _ => False
theorem sm_ext_rf {k : sm_K} {n : Nat} {g : sm_G} : sm_ext k n g g := ⟨fun _ _ => rfl, rfl, fun _ => rfl⟩
theorem sm_A_eq {g g' : sm_G} (h : g'.2 = g.2) : sm_A g' = sm_A g := by unfold sm_A; rw [h]
/-- the entry's locals -/
theorem sm_L_en (g : sm_G) (n : Nat) (as : List Value) {ls : Array Slot} (h : lv_has ls n (lv_args 0 (as.map (sm_tv g)))) : sm_L g n (sm_en n as) ls := by
  refine ⟨h.1, h.2.1, fun i v hv => ?_⟩
  have key : ∀ (as : List Value) (d i : Nat) (v : Value), (as.flatMap (fun v => if v.category = 2 then [some v, none] else [some v]))[i]? = some (some v) → (d + i, sm_tv g v) ∈ lv_args d (as.map (sm_tv g)) := by
    intro as
    induction as with
    | nil => intro d i v h; simp at h
    | cons a as ih =>
      intro d i v h
      simp only [List.flatMap_cons] at h
      by_cases hc : a.category = 2
      · rw [if_pos hc] at h
        match i, h with
        | 0, h =>
          simp at h
          subst h
          simp [lv_args]
        | 1, h => simp at h
        | i + 2, h =>
          have h' : (as.flatMap (fun v => if v.category = 2 then [some v, none] else [some v]))[i]? = some (some v) := by simpa using h
          have := ih (d + 2) i v h'
          rw [show d + (i + 2) = d + 2 + i by omega]
          simp only [List.map_cons, lv_args, sm_tv_cat, hc]
          simp [this]
      · rw [if_neg hc] at h
        have hc1 : a.category = 1 := (lv_cat a).resolve_right hc
        match i, h with
        | 0, h =>
          simp at h
          subst h
          simp [lv_args]
        | i + 1, h =>
          have h' : (as.flatMap (fun v => if v.category = 2 then [some v, none] else [some v]))[i]? = some (some v) := by simpa using h
          have := ih (d + 1) i v h'
          rw [show d + (i + 1) = d + 1 + i by omega]
          simp only [List.map_cons, lv_args, sm_tv_cat, hc1]
          simp [this]
  unfold sm_en at hv
  by_cases hl : i < (as.flatMap (fun v => if v.category = 2 then [some v, none] else [some v])).length
  · rw [List.getElem?_append_left hl] at hv
    have := key as 0 i v hv
    rw [Nat.zero_add] at this
    exact h.2.2 _ this
  · rw [List.getElem?_append_right (by omega)] at hv
    rw [List.getElem?_replicate] at hv
    split at hv <;> cases hv
theorem sm_len (g : sm_G) (as : List Value) : (lg_sl (as.map (sm_tv g))).length = (as.flatMap (fun v => if v.category = 2 then [some v, none] else [some v])).length := by
  induction as with
  | nil => rfl
  | cons a as ih =>
    have h1 : lg_sl ((a :: as).map (sm_tv g)) = (if (sm_tv g a).category = 2 then [.val (sm_tv g a), .second] else [.val (sm_tv g a)]) ++ lg_sl (as.map (sm_tv g)) := by simp [lg_sl]
    rw [h1, List.flatMap_cons, List.length_append, List.length_append, ih, sm_tv_cat]
    split <;> rfl
set_option maxHeartbeats 1000000 in
/-- FROM THE WORTH TO THE MACHINE: a method's contract -/
theorem sm_met {ρ : Type} {j : ρ → Option Value × sm_M} {k : sm_K} {as : List Value} {M : sm_M} {o : Option ρ} (hy : plainName k.1.cls = true) (hcd : Cond.code k.1 k.2.1 k.2.2.1 k.2.2.2.1 ∈ sm_tb) (hP : sm_P j k as M o) {r : ρ} (hr : o = some r) (hro : sm_ro k.2.2.2.1 (j r).1) (hlen : (as.flatMap (fun v => if v.category = 2 then [some v, none] else [some v])).length ≤ k.2.2.1) (l : Launch) (g : sm_G) :
    Met l k.1 (Cond.code k.1 k.2.1 k.2.2.1 k.2.2.2.1 :: sm_tb) (sm_rm k) (va_Pc (as.map (sm_tv g)) (sm_B g M)) (sm_Qc k M.1.length g (j r)) k.2.2.2.2.2.1 k.2.2.2.2.2.2 (sm_A g) := by
  refine Met.ofW (cc := k.2.1) (maxL := k.2.2.1) (ret := k.2.2.2.1) hy rfl ?_
  intro p e s m args below meth c s₁ B hml hv
  obtain ⟨rfl, hbs, hX, hM⟩ := hv
  have hts0 := atoms_spec (ws := Cond.code k.1 k.2.1 k.2.2.1 k.2.2.2.1 :: sm_tb) B.pre
  have hts : ∀ w ∈ sm_tb, w.before (as.map (sm_tv g)).toArray s = true := fun w hw => hts0 w (List.mem_cons_of_mem _ hw)
  have hown : s.vm.findClass k.1.cls = some m.cls := findClass_of_methodNamed B.named
  have hlocks := B.notSynchronized
  have hin : meth.name = k.1.name := (name_of_methodNamed B.named B.method).1
  have hl := lv_entry (as.map (sm_tv g)) (n := k.2.2.1) (by rw [sm_len]; exact hlen)
  rw [lg_entry_eq]
  have hC : sm_C k g p (headSpec (Cond.code k.1 k.2.1 k.2.2.1 k.2.2.2.1 :: sm_tb) (sm_rm k)).room s m (as.map (sm_tv g)).toArray meth c := ⟨B.exec, B.bytes, B.returns, hml, hown, hts, hlocks, hin, hbs, hX, Nat.le_refl _, Nat.le_refl _, Nat.le_refl _, Nat.le_refl _⟩
  refine hP r hr M.1.length g g p l e _ s m _ below meth c _ hC sm_ext_rf (Nat.le_refl _) ?_ s.heap [] _ hM va_S.rf (sm_L_en g k.2.2.1 as hl)
  intro g' H locs ls pc cells slots hx hR hS h1 h2 hdc hz
  refine W.widen (k := k.2.2.2.2.2.1) (n := k.2.2.2.2.2.2) h1 h2 ?_
  have hB : ∀ t : State, t.heap = H → s.WarmedH t.vm → sm_Qc k M.1.length g (j r) (as.map (sm_tv g)).toArray s (.returned (j r).1) t := fun t ht hW => by
    refine ⟨rfl, ⟨g', hx, ?_, ?_, ?_⟩, hS.F ht⟩
    · rw [hx.2.1, ht]
      exact Nat.le_trans hbs hS.1
    · have hX2 := (hX.kept hS.1 hS.2.1).warm hW
      rw [← ht] at hX2
      obtain ⟨x1, x2, x3, x4, x5, x6, x7, x8, x9⟩ := hX2
      have e3 : 3 ≤ M.1.length := by
        have := (List.getElem?_eq_some_iff.mp hM.1.2.2.1).1
        omega
      have a0 : g'.1 0 = g.1 0 := hx.1 0 (by omega)
      have a1 : g'.1 1 = g.1 1 := hx.1 1 (by omega)
      have a2 : g'.1 2 = g.1 2 := hx.1 2 (by omega)
      have e4 : sm_A g' = sm_A g := sm_A_eq hx.2.1
      have e5 : sm_tys g' = sm_tys g := by unfold sm_tys; rw [hx.2.1]
      unfold sm_X
      rw [e4, e5, a0, a1, a2, hx.2.1]
      exact ⟨x1, x2, x3, x4, x5, x6, x7, x8, x9⟩
    · rw [ht]; exact hR
  generalize hj : (j r).1 = v at hro hdc hB hz ⊢
  match v, hro with
  | some (.int v), hro =>
    rcases hro with hro | hro
    · exact W.iret (v := v) B.exec B.bytes (B.returns.trans hro) hB hS.2.2 hdc hlocks
    · refine W.zret (v := v) (ty := .boolean) B.exec B.bytes (B.returns.trans hro) ?_ hB hS.2.2 hdc hlocks
      rcases hz v rfl hro with h | h <;> rw [h] <;> rfl
  | some (.long v), hro => exact W.lret (v := v) B.exec B.bytes (B.returns.trans hro) hB hS.2.2 hdc hlocks
  | none, hro => exact W.vret B.exec B.bytes (B.returns.trans hro) hB hS.2.2 hdc hlocks
theorem sm_gi2 {w : Cond} (h : w ∈ sm_tb) : GoodIn sm_tb (w :: sm_tb) := fun x hx => (List.mem_cons.mp hx).elim (fun e => e ▸ sm_gi w h) (sm_gi x)
/-- what the tables say of a method that is called -/
def sm_me (k : sm_K) (n : Nat) : Prop := plainName k.1.cls = true ∧ Cond.code k.1 k.2.1 k.2.2.1 k.2.2.2.1 ∈ sm_tb ∧ Cond.initialized k.1.cls ∈ sm_tb ∧ (k.1.cls ≠ "java/lang/invoke/MethodHandle" ∧ k.1.cls ≠ "java/lang/invoke/VarHandle" ∧ (parseMethodDescriptor k.1.desc).map (fun d => d.parameters.length) = some n)
theorem sm_bl {g : sm_G} {M : sm_M} {vs : List Value} : FrameBlind (va_Pc vs (sm_B g M)) := fun a U f mk q => by
  obtain ⟨q0, q1, q2, q3⟩ := q
  exact ⟨q0, q1, sm_X.moved (u := U) (U := U.calling f mk a) (Vm.Alike.refl U.vm) (sm_Nn.same (u := U) rfl q2.2.2.2.2.2.2.2.2) q2, q3⟩
theorem sm_pre {k : sm_K} {g : sm_G} {p : Program} {R : Room} {s : State} {m : MethodId} {args : Array Value} {meth : Method} {c : Code} {M : sm_M} {H : Heap} {locs : List Loc} {vs : List Value} (hC : sm_C k g p R s m args meth c) (hM : sm_R g M H) (hS : va_S (sm_A g) s.heap H locs) : ∀ U : State, U.heap = H → s.WarmedH U.vm → va_Pc vs (sm_B g M) vs.toArray U := fun U hU hW => by
  refine ⟨rfl, ?_, ?_, ?_⟩
  · rw [hU]
    exact Nat.le_trans hC.2.2.2.2.2.2.2.2.1 hS.1
  · rw [hU]
    exact (hC.2.2.2.2.2.2.2.2.2.1.kept hS.1 hS.2.1).warm hW
  · rw [hU]
    exact hM
theorem sm_cats (g : sm_G) (l : List Value) : ((l.map (sm_tv g)).map fun v => v.category).sum = (l.map fun v => v.category).sum := by
  induction l with
  | nil => rfl
  | cons a l ih => simp only [List.map_cons, List.sum_cons, ih, sm_tv_cat]
theorem sm_call {p : Program} {l : Launch} {e : Env} {R : Room} {s : State} {m : MethodId} {args a : Array Value} {below : List Frame} {meth : Method} {c : Code} {H : Heap} {locs : List Loc} {cells slots mc ms pc n : Nat} {Q : State → Prop} {ls : Array Slot} {st0 rest : List Value} {k2 : sm_K} {g : sm_G} {r : Option Value × sm_M} (hr : va_Run p l e R s m args below meth c H locs cells slots mc ms (F0 m pc ls st0) rest (sm_Qc k2 n g r a) (sm_A g)) (hS : va_S (sm_A g) s.heap H locs)
    (kk : ∀ (g' : sm_G) (H1 : Heap) (locs1 : List Loc), sm_ext k2 n g g' → sm_R g' r.2 H1 → va_S (sm_A g) s.heap H1 locs1 → W p l e R s m args below meth c H1 locs1 (cells + mc) (slots + ms) Q (F0 m (pc + 3) ls (r.1.toList ++ rest))) : W p l e R s m args below meth c H locs cells slots Q (F0 m pc ls st0) := by
  intro T hT X
  obtain ⟨v, st₀, t, T', L, h0, X', hL, e1, e2, ⟨hv, ⟨g', hx, hb1, hb2, hb3⟩, hz, hk⟩, st⟩ := hr T hT X
  cases hv
  rw [h0] at hz hk
  rw [← e1] at hb3
  obtain ⟨t2, a1, b1⟩ := kk g' T'.heap (locs ++ L) hx hb3
    ⟨Nat.le_trans hS.1 (by rw [e1]; exact hz), fun q h1 h2 => by rw [e1, hk q (Nat.lt_of_lt_of_le h1 hS.1) h2]; exact hS.2.1 q h1 h2, fun q hq => by
      rcases List.mem_append.mp hq with h | h
      · exact hS.2.2 q h
      · exact hL q h⟩ T' rfl X'
  exact ⟨t2, st t2 a1, b1⟩
section
variable {ρ ρ2 : Type} {j : ρ → Option Value × sm_M} {j2 : ρ2 → Option Value × sm_M} {k k2 : sm_K} {cs sl pc N : Nat} {lf : List (Option Value)} {st As rest : List Value} {S : sm_t} {M : sm_M} {o2 : Option ρ2} {K : ρ2 → Option ρ}
/-- static -/
theorem sd_cS (idx : Nat) (hd : decode k.2.1 pc = .ok (.invokestatic idx, 3)) (hl : Cond.methodLink k.1.cls idx k2.1 ∈ sm_tb) (hstt : Cond.static k2.1 ∈ sm_tb) (hme : sm_me k2 As.length) (hz : k2.2.2.2.2.2.1 = 0 ∧ k2.2.2.2.2.2.2 = 0) (hfr : k2.2.2.2.2.1 + 1 ≤ k.2.2.2.2.1 ∧ k2.2.2.1 ≤ 45) (hrs : (rest.map fun v => v.category).sum ≤ 8) (hen : (As.flatMap (fun v => if v.category = 2 then [some v, none] else [some v])).length ≤ k2.2.2.1) (hro : ∀ r, sm_ro k2.2.2.2.1 (j2 r).1) (hvv : ∀ r g, (j2 r).1.toList.map (sm_tv g) = (j2 r).1.toList) (hml : ∀ r, (j2 r).2.1 = M.1) (hcs : cs ≤ k.2.2.2.2.2.1) (hsl : sl ≤ k.2.2.2.2.2.2) (hst : st = As.reverse ++ rest) (hp : sm_P j2 k2 (As) M o2) (h : ∀ r2, o2 = some r2 → sm_S j k cs sl (pc + 3) lf ((j2 r2).1.toList ++ rest) (j2 r2).2 (K r2)) : sm_S j k cs sl pc lf st M (o2.bind K) := by
  intro r hr n g0 g p l e R s m args below meth c Q hC hx hn hQ H locs ls hM hS hL
  cases ho : o2 with
  | none => rw [ho] at hr; cases hr
  | some r2 =>
    rw [ho] at hr
    have hr : K r2 = some r := hr
    have hMet := sm_met hme.1 hme.2.1 hp ho (hro r2) hen l g
    rw [hz.1, hz.2] at hMet
    have hts := hC.2.2.2.2.2.1
    have hfr1 : (sm_rm k2).frames + 1 ≤ R.frames := Nat.le_trans hfr.1 hC.2.2.2.2.2.2.2.2.2.2.1
    have hfr2 : 8 + (k2.2.2.1 + 11) + (sm_rm k2).locals ≤ R.locals := by
      have h1 := hC.2.2.2.2.2.2.2.2.2.2.2.1
      have h2 := hfr.1
      have h3 := hfr.2
      show 8 + (k2.2.2.1 + 11) + 64 * k2.2.2.2.2.1 ≤ R.locals
      omega
    have hf : cs + 0 ≤ R.cells ∧ sl + 0 ≤ R.slots := ⟨Nat.le_trans hcs hC.2.2.2.2.2.2.2.2.2.2.2.2.1, Nat.le_trans hsl hC.2.2.2.2.2.2.2.2.2.2.2.2.2⟩
    have hrun : va_Run p l e R s m args below meth c H locs cs sl 0 0 (F0 m pc ls (st.map (sm_tv g))) (rest.map (sm_tv g)) (sm_Qc k2 M.1.length g (j2 r2) ((As).map (sm_tv g)).toArray) (sm_A g) := by
      exact va_runS (n := As.length) ⟨hC.1, hC.2.1, hC.2.2.2.1, hC.2.2.2.2.1, hts⟩ hMet ⟨callB_of As.length hts (sm_gi2 hme.2.1) rfl hz.1 hz.2 (hts _ hme.2.2.1) (hts _ hl) hme.2.2.2 ⟨hfr1, hfr2⟩, hts _ hstt⟩ ⟨sm_bl, sm_pre hC hM hS⟩ rfl (by rw [List.length_map]) (hL.1) (by subst hst; simp [List.map_reverse, sm_tv]) (by rw [show (F0 m pc ls (st.map (sm_tv g))).monitorRoom = 0 from rfl, sm_cats]; omega) hd hf
    refine sm_call hrun hS (fun g' H1 locs1 hx1 hR1 hS1 => ?_)
    have hg : g' = g := hx1.2.2 hz.1
    subst hg
    have hk := h r2 ho r hr n g0 g' p l e R s m args below meth c Q hC hx (by rw [hml r2]; exact hn) hQ H1 locs1 ls hR1 hS1 hL
    rw [List.map_append, hvv r2 g'] at hk
    exact hk
/-- static, private, of the same nest -/
theorem sd_cN (idx : Nat) (host : String) (hd : decode k.2.1 pc = .ok (.invokestatic idx, 3)) (hl : (k.1.cls, idx, k2.1, host) ∈ sm_nl) (hstt : Cond.static k2.1 ∈ sm_tb) (hme : sm_me k2 As.length) (hz : k2.2.2.2.2.2.1 = 0 ∧ k2.2.2.2.2.2.2 = 0) (hfr : k2.2.2.2.2.1 + 1 ≤ k.2.2.2.2.1 ∧ k2.2.2.1 ≤ 45) (hrs : (rest.map fun v => v.category).sum ≤ 8) (hen : (As.flatMap (fun v => if v.category = 2 then [some v, none] else [some v])).length ≤ k2.2.2.1) (hro : ∀ r, sm_ro k2.2.2.2.1 (j2 r).1) (hvv : ∀ r g, (j2 r).1.toList.map (sm_tv g) = (j2 r).1.toList) (hml : ∀ r, (j2 r).2.1 = M.1) (hcs : cs ≤ k.2.2.2.2.2.1) (hsl : sl ≤ k.2.2.2.2.2.2) (hst : st = As.reverse ++ rest) (hp : sm_P j2 k2 (As) M o2) (h : ∀ r2, o2 = some r2 → sm_S j k cs sl (pc + 3) lf ((j2 r2).1.toList ++ rest) (j2 r2).2 (K r2)) : sm_S j k cs sl pc lf st M (o2.bind K) := by
  intro r hr n g0 g p l e R s m args below meth c Q hC hx hn hQ H locs ls hM hS hL
  cases ho : o2 with
  | none => rw [ho] at hr; cases hr
  | some r2 =>
    rw [ho] at hr
    have hr : K r2 = some r := hr
    have hMet := sm_met hme.1 hme.2.1 hp ho (hro r2) hen l g
    rw [hz.1, hz.2] at hMet
    have hts := hC.2.2.2.2.2.1
    have hfr1 : (sm_rm k2).frames + 1 ≤ R.frames := Nat.le_trans hfr.1 hC.2.2.2.2.2.2.2.2.2.2.1
    have hfr2 : 8 + (k2.2.2.1 + 11) + (sm_rm k2).locals ≤ R.locals := by
      have h1 := hC.2.2.2.2.2.2.2.2.2.2.2.1
      have h2 := hfr.1
      have h3 := hfr.2
      show 8 + (k2.2.2.1 + 11) + 64 * k2.2.2.2.2.1 ≤ R.locals
      omega
    have hf : cs + 0 ≤ R.cells ∧ sl + 0 ≤ R.slots := ⟨Nat.le_trans hcs hC.2.2.2.2.2.2.2.2.2.2.2.2.1, Nat.le_trans hsl hC.2.2.2.2.2.2.2.2.2.2.2.2.2⟩
    have hrun : va_Run p l e R s m args below meth c H locs cs sl 0 0 (F0 m pc ls (st.map (sm_tv g))) (rest.map (sm_tv g)) (sm_Qc k2 M.1.length g (j2 r2) ((As).map (sm_tv g)).toArray) (sm_A g) := by
      exact va_runSN (n := As.length) ⟨hC.1, hC.2.1, hC.2.2.2.1, hC.2.2.2.2.1, hts⟩ hMet ⟨va_cnB As.length hts (sm_gi2 hme.2.1) rfl hz.1 hz.2 (hC.2.2.2.2.2.2.2.2.2.1.2.2.2.2.2.2.2.2.1 _ hl) (hts _ hme.2.2.1) hme.2.2.2 ⟨hfr1, hfr2⟩, hts _ hstt, trivial⟩ ⟨sm_bl, sm_pre hC hM hS⟩ rfl (by rw [List.length_map]) (hL.1) (by subst hst; simp [List.map_reverse, sm_tv]) (by rw [show (F0 m pc ls (st.map (sm_tv g))).monitorRoom = 0 from rfl, sm_cats]; omega) hd hf
    refine sm_call hrun hS (fun g' H1 locs1 hx1 hR1 hS1 => ?_)
    have hg : g' = g := hx1.2.2 hz.1
    subst hg
    have hk := h r2 ho r hr n g0 g' p l e R s m args below meth c Q hC hx (by rw [hml r2]; exact hn) hQ H1 locs1 ls hR1 hS1 hL
    rw [List.map_append, hvv r2 g'] at hk
    exact hk
/-- of an object -/
theorem sd_cV (idx : Nat) {b ci : Nat} (h3 : 3 ≤ b) (hb : M.1[b]? = some (.inr ci)) (hci : ci < 8) (hcl : k2.1.cls = sm_Rn ci) (hd : decode k.2.1 pc = .ok (.invokevirtual idx, 3)) (hl : Cond.methodLink k.1.cls idx k2.1 ∈ sm_tb) (hins : Cond.instanceMethod k2.1 ∈ sm_tb) (hsel : Cond.selects k2.1.cls k2.1 k2.1 ∈ sm_tb) (hme : sm_me k2 As.length) (hz : k2.2.2.2.2.2.1 = 0 ∧ k2.2.2.2.2.2.2 = 0) (hfr : k2.2.2.2.2.1 + 1 ≤ k.2.2.2.2.1 ∧ k2.2.2.1 ≤ 45) (hrs : (rest.map fun v => v.category).sum ≤ 8) (hen : ((.ref b :: As : List Value).flatMap (fun v => if v.category = 2 then [some v, none] else [some v])).length ≤ k2.2.2.1) (hro : ∀ r, sm_ro k2.2.2.2.1 (j2 r).1) (hvv : ∀ r g, (j2 r).1.toList.map (sm_tv g) = (j2 r).1.toList) (hml : ∀ r, (j2 r).2.1 = M.1) (hcs : cs ≤ k.2.2.2.2.2.1) (hsl : sl ≤ k.2.2.2.2.2.2) (hst : st = As.reverse ++ .ref b :: rest) (hp : sm_P j2 k2 (.ref b :: As) M o2) (h : ∀ r2, o2 = some r2 → sm_S j k cs sl (pc + 3) lf ((j2 r2).1.toList ++ rest) (j2 r2).2 (K r2)) : sm_S j k cs sl pc lf st M (o2.bind K) := by
  intro r hr n g0 g p l e R s m args below meth c Q hC hx hn hQ H locs ls hM hS hL
  cases ho : o2 with
  | none => rw [ho] at hr; cases hr
  | some r2 =>
    rw [ho] at hr
    have hr : K r2 = some r := hr
    have hMet := sm_met hme.1 hme.2.1 hp ho (hro r2) hen l g
    rw [hz.1, hz.2] at hMet
    have hts := hC.2.2.2.2.2.1
    have hfr1 : (sm_rm k2).frames + 1 ≤ R.frames := Nat.le_trans hfr.1 hC.2.2.2.2.2.2.2.2.2.2.1
    have hfr2 : 8 + (k2.2.2.1 + 11) + (sm_rm k2).locals ≤ R.locals := by
      have h1 := hC.2.2.2.2.2.2.2.2.2.2.2.1
      have h2 := hfr.1
      have h3 := hfr.2
      show 8 + (k2.2.2.1 + 11) + 64 * k2.2.2.2.2.1 ≤ R.locals
      omega
    have hf : cs + 0 ≤ R.cells ∧ sl + 0 ≤ R.slots := ⟨Nat.le_trans hcs hC.2.2.2.2.2.2.2.2.2.2.2.2.1, Nat.le_trans hsl hC.2.2.2.2.2.2.2.2.2.2.2.2.2⟩
    have hrun : va_Run p l e R s m args below meth c H locs cs sl 0 0 (F0 m pc ls (st.map (sm_tv g))) (rest.map (sm_tv g)) (sm_Qc k2 M.1.length g (j2 r2) ((.ref b :: As).map (sm_tv g)).toArray) (sm_A g) := by
      exact va_runV (n := As.length) (C := k2.1.cls) (b := g.1 b) (As := As.map (sm_tv g)) ⟨hC.1, hC.2.1, hC.2.2.2.1, hC.2.2.2.2.1, hts⟩ hMet ⟨callB_of As.length hts (sm_gi2 hme.2.1) rfl hz.1 hz.2 (hts _ hme.2.2.1) (hts _ hl) hme.2.2.2 ⟨hfr1, hfr2⟩, hts _ hins, hts _ hsel⟩ ⟨sm_bl, by rw [hcl]; exact va_recv hC.2.2.2.2.2.2.2.2.2.1.1 hM.2.1 (sm_cl_at ci hci) (sm_w_at hb h3), sm_pre (vs := .ref (g.1 b) :: As.map (sm_tv g)) hC hM hS⟩ rfl (by rw [List.length_map]) (hL.1) (by subst hst; simp [List.map_reverse, sm_tv]) (by rw [show (F0 m pc ls (st.map (sm_tv g))).monitorRoom = 0 from rfl, sm_cats]; omega) hd hf
    refine sm_call hrun hS (fun g' H1 locs1 hx1 hR1 hS1 => ?_)
    have hg : g' = g := hx1.2.2 hz.1
    subst hg
    have hk := h r2 ho r hr n g0 g' p l e R s m args below meth c Q hC hx (by rw [hml r2]; exact hn) hQ H1 locs1 ls hR1 hS1 hL
    rw [List.map_append, hvv r2 g'] at hk
    exact hk
end
