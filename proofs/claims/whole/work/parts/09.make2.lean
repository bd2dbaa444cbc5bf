/-! ===== making cells: rows of rows, stores, constructors' calls ===== -/
theorem sx_C {k : sm_K} {g g' : sm_G} {p : Program} {R : Room} {s : State} {m : MethodId} {args : Array Value} {meth : Method} {c : Code} {n : Nat} (h3 : 3 ≤ n) (hi : ∀ i, i < n → g'.1 i = g.1 i) (h2 : g'.2 = g.2) (h : sm_C k g p R s m args meth c) : sm_C k g' p R s m args meth c := by
  obtain ⟨c1, c2, c3, c4, c5, c6, c7, c8, c9, c10, c11⟩ := h
  refine ⟨c1, c2, c3, c4, c5, c6, c7, c8, by rw [h2]; exact c9, ?_, c11⟩
  have e4 : sm_A g' = sm_A g := sm_A_eq h2
  have e5 : sm_tys g' = sm_tys g := by unfold sm_tys; rw [h2]
  unfold sm_X
  rw [e4, e5, hi 0 (by omega), hi 1 (by omega), hi 2 (by omega), h2]
  exact c10
theorem sx_ext {k : sm_K} {g0 g g' : sm_G} {n0 n : Nat} (hk : k.2.2.2.2.2.1 ≠ 0) (hn : n0 ≤ n) (hi : ∀ i, i < n → g'.1 i = g.1 i) (h2 : g'.2 = g.2) (h : sm_ext k n0 g0 g) : sm_ext k n0 g0 g' := ⟨fun i q => (hi i (by omega)).trans (h.1 i q), h2.trans h.2.1, fun z => absurd z hk⟩
theorem sx_tv {g g' : sm_G} {n : Nat} (hi : ∀ i, i < n → g'.1 i = g.1 i) {v : Value} (h : sc_ov n v = true) : sm_tv g' v = sm_tv g v := by
  cases v with
  | ref a =>
    have ha : a < n := by simpa [sc_ov] using h
    show Value.ref _ = Value.ref _
    rw [hi a ha]
  | _ => rfl
theorem sx_st {g g' : sm_G} {n : Nat} (hi : ∀ i, i < n → g'.1 i = g.1 i) {st : List Value} (h : st.all (sc_ov n) = true) : st.map (sm_tv g') = st.map (sm_tv g) := List.map_congr_left fun v hv => sx_tv hi (List.all_eq_true.mp h v hv)
theorem sx_L {g g' : sm_G} {n q : Nat} (hi : ∀ i, i < n → g'.1 i = g.1 i) {lf : List (Option Value)} {ls : Array Slot} (h : lf.all (sc_ol n) = true) (hL : sm_L g q lf ls) : sm_L g' q lf ls := ⟨hL.1, hL.2.1, fun i v hv => by
  have h1 := List.all_eq_true.mp h _ (List.mem_of_getElem? hv)
  rw [sx_tv hi h1]
  exact hL.2.2 i v hv⟩
def sc_j (s : sm_Sh) : sc_t → Option Value × sm_M := fun T => (none, (s, T))
/-- rows of rows: the outer array at a, the inner ones behind it -/
def sc_zm (T : sc_t) (a N : Nat) : sc_t := (fun b => if a ≤ b ∧ b < a + (N + 1) then (fun _ => 0) else T.1 b, fun b => if a ≤ b ∧ b < a + (N + 1) then (fun _ => 0) else T.2.1 b, fun b => if b = a then (fun i => if i < N then some (a + (i + 1)) else none) else if a ≤ b ∧ b < a + (N + 1) then (fun _ => none) else T.2.2 b)
def sc_xs (ty : FieldType) (N K : Nat) : sm_Sh := .inl (.array ty, N) :: List.replicate N (.inl (ty, K))
theorem sc_xs_len (ty : FieldType) (N K : Nat) : (sc_xs ty N K).length = N + 1 := by simp [sc_xs]
theorem sc_zm_wf {T : sc_t} {n N : Nat} (h : sc_wf n T) : sc_wf (n + (N + 1)) (sc_zm T n N) := fun x i b hb => by
  simp only [sc_zm] at hb
  split at hb
  · dsimp only at hb
    split at hb
    · have := Option.some.inj hb
      omega
    · cases hb
  · split at hb
    · cases hb
    · have := h x i b hb
      omega
section
variable {ρ ρ2 : Type} {j : ρ → Option Value × sm_M} {k k2 : sm_K} {cs sl pc : Nat} {lf : List (Option Value)} {st : List Value} {s s2 : sm_Sh} {T : sc_t} {o2 : Option sc_t} {o : Option ρ} {K : sc_t → Option ρ}
set_option maxHeartbeats 1000000 in
theorem sc_mna {ty : FieldType} (t0 t1 N K' : Nat) {z y : Int32} (idx : Nat) (hty : ty = .int ∨ ty = .byte) (ht : ∀ g : sm_G, (sm_tys g)[t0]? = some (g.2.2.2.2.2 (.array ty), .array ty)) (ht1 : ∀ g : sm_G, (sm_tys g)[t1]? = some (g.2.2.2.2.2 ty, ty)) (hcl : Cond.classLink k.1.cls idx ("[" ++ (FieldType.array ty).toString) ∈ sm_tb) (harr : Cond.arrayClass ty ∈ sm_tb) (hz : ¬ z < 0) (hy : ¬ y < 0) (hzN : z.toNatClampNeg = N) (hyK : y.toNatClampNeg = K') (hb1 : N * 4 ≤ 536870912) (hb2 : K' * componentBytes ty ≤ 536870912) (hb3 : K' ≤ 536870912) (h3 : 3 ≤ s.length) (hw : sc_wf s.length T) (hv : sc_ok s.length lf st = true) (hk : k.2.2.2.2.2.1 ≠ 0) (hmc : cs + (1 + N) ≤ k.2.2.2.2.2.1) (hms : sl + (N + N * K') ≤ k.2.2.2.2.2.2) (hd : decode k.2.1 pc = .ok (.multianewarray idx 2, 4)) (h : ∀ T : sc_t, sc_wf (s ++ sc_xs ty N K').length T → sm_S j k (cs + 1 + N) (sl + N + N * K') (pc + 4) lf (.ref s.length :: st) (s ++ sc_xs ty N K', T) (K T)) : sm_S j k cs sl pc lf (.int y :: .int z :: st) (s, T) (sm_n (sc_zm T s.length N) K) := by
  intro r hr n g0 g p l e R s3 m args below meth c Q hC hx hn hQ H locs ls hM hS hL
  obtain ⟨hv1, hv2⟩ := Bool.and_eq_true_iff.mp hv
  have hts := hC.2.2.2.2.2.1
  have hA : ∀ q, s3.heap.size ≤ q → sm_A g q := fun q hq => Nat.le_trans hC.2.2.2.2.2.2.2.2.1 hq
  have hXK := hC.2.2.2.2.2.2.2.2.2.1.1
  have hNn := hC.2.2.2.2.2.2.2.2.2.1.2.2.2.2.2.2.2.2
  have hAOA : va_AOA ty s3 := by rcases hty with rfl | rfl; exact hNn.2.2.1; exact hNn.2.2.2
  have hcy : s3.vm.findClass (FieldType.array ty).toString = some (g.2.2.2.2.2 ty) := by
    have h1 := (hXK.2 t1 _ (ht1 g)).2
    rcases hty with rfl | rfl <;> exact h1
  have hP0 : va_P g.2.2.2.2.1 sm_cl (sm_w g (s, T) ++ va_pl [] (fun _ => .inr (0, []))) H := by simpa [va_pl] using hM.2.1
  have hD0 : va_D (sm_A g) (sm_w g (s, T) ++ va_pl [] (fun _ => .inr (0, []))) := by simpa [va_pl] using hM.2.2
  refine va_mna (ty := ty) (cy := g.2.2.2.2.2 ty) (N' := N) (K' := K') (z := (K', .inl (fun _ => 0))) hC.1 hC.2.1 hC.2.2.2.2.1 (hts _ hcl) hAOA (hts _ harr) hcy hXK hP0 hD0 hS hA hz hy hzN hyK hb1 hb2 hb3 (by rcases hty with rfl | rfl <;> rfl) (by rcases hty with rfl | rfl <;> rfl) (Nat.le_trans hmc hC.2.2.2.2.2.2.2.2.2.2.2.2.1) (Nat.le_trans hms hC.2.2.2.2.2.2.2.2.2.2.2.2.2) (fun cc => by
    have hdv : defaultValue ty = .int 0 := by rcases hty with rfl | rfl <;> rfl
    rw [hdv]
    show ({ cls := cc, slots := Array.replicate K' (.int 0), vm := .none } : Cell) = _
    rw [arrV_new]
    rfl) hd (fun q rr cA H1 hinj hnl hK1 hP1 hD1 hS1 => ?_)
  have hcA := sc_cA t0 (ht g) hXK hK1
  subst hcA
  have hw1 := sc_zm_wf (N := N) hw
  have ho : ∀ b, b < s.length → (sc_zm T s.length N).1 b = T.1 b ∧ (sc_zm T s.length N).2.1 b = T.2.1 b ∧ (sc_zm T s.length N).2.2 b = T.2.2 b := fun b hb => by
    refine ⟨if_neg (by omega), if_neg (by omega), ?_⟩
    show (if b = s.length then _ else if s.length ≤ b ∧ b < s.length + (N + 1) then _ else T.2.2 b) = _
    rw [if_neg (by omega), if_neg (by omega)]
  have hwe0 := sc_w (g := g) (xs := sc_xs ty N K') (T' := sc_zm T s.length N) (ads := fun i => if i = 0 then q else rr (i - 1)) h3 hw ho
  generalize hg' : sc_g g s.length (sc_xs ty N K').length (fun i => if i = 0 then q else rr (i - 1)) = g' at hwe0
  have hgl : ∀ i, i < s.length → g'.1 i = g.1 i := fun i hi => by rw [← hg']; exact sc_g_lt g _ hi
  have hg2 : g'.2 = g.2 := by rw [← hg']; rfl
  have hgi : ∀ i, i < N + 1 → g'.1 (s.length + i) = if i = 0 then q else rr (i - 1) := fun i hi => by rw [← hg']; exact sc_g_in g _ (by rw [sc_xs_len]; exact hi)
  have hkd : sm_kd ty = 0 := by rcases hty with rfl | rfl <;> rfl
  have htail : (sc_xs ty N K').zipIdx.map (fun x => ((if x.2 = 0 then q else rr (x.2 - 1) : Nat), sm_ce g' (s ++ sc_xs ty N K', sc_zm T s.length N) (s.length + x.2) x.1)) = [(q, .inl (g.2.2.2.2.2 (.array ty), N, .inr (.inr (.inr (.inr (fun i => if i < N then some (rr i) else none))))))] ++ (List.range N).map (fun i => (rr i, .inl (g.2.2.2.2.2 ty, K', .inl (fun _ => 0)))) := by
    apply List.ext_getElem?
    intro i
    rw [List.getElem?_map, List.getElem?_zipIdx]
    match i with
    | 0 =>
      simp only [sc_xs, List.getElem?_cons_zero, Option.map_some, Nat.zero_add, if_pos, List.cons_append, List.nil_append, Nat.add_zero]
      have hf : (fun j => ((sc_zm T s.length N).2.2 s.length j).map g'.1) = fun i => if i < N then some (rr i) else none := funext fun i => by
        show (((if s.length = s.length then (fun i => if i < N then some (s.length + (i + 1)) else none) else if s.length ≤ s.length ∧ s.length < s.length + (N + 1) then (fun _ => none) else T.2.2 s.length) : Nat → Option Nat) i).map g'.1 = _
        rw [if_pos rfl]
        by_cases hi : i < N
        · rw [if_pos hi, if_pos hi, Option.map_some, hgi (i + 1) (by omega), if_neg (by omega), Nat.add_sub_cancel]
        · rw [if_neg hi, if_neg hi]
          rfl
      simp only [sm_ce, sm_ar, sm_kd, hf, hg2]
    | i + 1 =>
      simp only [sc_xs, List.getElem?_cons_succ, List.cons_append, List.nil_append]
      by_cases hi : i < N
      · rw [List.getElem?_replicate, if_pos hi, List.getElem?_map, List.getElem?_range hi]
        simp only [Option.map_some, Nat.zero_add, if_neg (Nat.succ_ne_zero i), Nat.add_sub_cancel]
        have hz1 : (sc_zm T s.length N).1 (s.length + (i + 1)) = fun _ => 0 := if_pos (by omega)
        simp only [sm_ce, sm_ar, hkd, hz1, hg2]
      · rw [List.getElem?_replicate, if_neg hi, List.getElem?_eq_none (by simpa using hi)]
        rfl
  have hpl : va_pl ([] ++ (List.range N).map rr) (vr_up (fun _ => (.inr (0, []) : va_E)) ((List.range N).map rr) (.inl (g.2.2.2.2.2 ty, K', .inl (fun _ => 0)))) = (List.range N).map (fun i => (rr i, (.inl (g.2.2.2.2.2 ty, K', .inl (fun _ => 0)) : va_E))) := by
    unfold va_pl
    rw [List.nil_append, List.map_map]
    apply List.map_congr_left
    intro i hi
    show (rr i, vr_up _ _ _ (rr i)) = _
    rw [vr_up_in (List.mem_map.mpr ⟨i, hi, rfl⟩)]
  rw [hpl, List.append_assoc, ← htail, ← hwe0] at hP1 hD1
  have hE1 : sm_E g' (s ++ sc_xs ty N K', sc_zm T s.length N) := by
    rw [← hg']
    exact sc_E h3 (fun b hb => (ho b hb).1) hM.1
  have hAg : sm_A g' = sm_A g := sm_A_eq hg2
  have hR : sm_R g' (s ++ sc_xs ty N K', sc_zm T s.length N) H1 := ⟨hE1, by rw [hg2]; exact hP1, by rw [hAg]; exact hD1⟩
  have hll : (s ++ sc_xs ty N K').length = s.length + (N + 1) := by rw [List.length_append, sc_xs_len]
  have hk2 := h (sc_zm T s.length N) (by rw [hll]; exact hw1) r hr n g0 g' p l e R s3 m args below meth c Q (sx_C h3 hgl hg2 hC) (sx_ext hk hn hgl hg2 hx) (by show n ≤ (s ++ sc_xs ty N K').length; rw [hll]; exact Nat.le_trans hn (by show s.length ≤ _; omega)) hQ H1 locs ls hR (by rw [hAg]; exact hS1) (sx_L hgl hv1 hL)
  rw [List.map_cons, sx_st hgl hv2] at hk2
  have hq : sm_tv g' (.ref s.length) = .ref q := by
    show Value.ref _ = Value.ref _
    have := hgi 0 (by omega)
    rw [Nat.add_zero, if_pos rfl] at this
    rw [this]
  rw [hq] at hk2
  exact hk2
theorem sc_cI {b : Nat} (idx : Nat) (hd : decode k.2.1 pc = .ok (.invokespecial idx, 3)) (hl : Cond.methodLink k.1.cls idx k2.1 ∈ sm_tb) (hins : Cond.instanceMethod k2.1 ∈ sm_tb) (hnm : k2.1.name = "<init>") (hme : sm_me k2 0) (hret : k2.2.2.2.1 = none) (hfr : k2.2.2.2.2.1 + 1 ≤ k.2.2.2.2.1 ∧ k2.2.2.1 ≤ 45) (hrs : (st.map fun v => v.category).sum ≤ 8) (hen : (([.ref b] : List Value).flatMap (fun v => if v.category = 2 then [some v, none] else [some v])).length ≤ k2.2.2.1) (hk : k.2.2.2.2.2.1 ≠ 0) (hmc : cs + k2.2.2.2.2.2.1 ≤ k.2.2.2.2.2.1) (hms : sl + k2.2.2.2.2.2.2 ≤ k.2.2.2.2.2.2) (h3 : 3 ≤ s.length) (hlen : s.length ≤ s2.length) (hv : sc_ok s.length lf st = true) (hp : sm_P (sc_j s2) k2 [.ref b] (s, T) o2) (hwf : ∀ T2, o2 = some T2 → sc_wf s2.length T2) (h : ∀ T : sc_t, sc_wf s2.length T → sm_S j k (cs + k2.2.2.2.2.2.1) (sl + k2.2.2.2.2.2.2) (pc + 3) lf st (s2, T) (K T)) : sm_S j k cs sl pc lf (.ref b :: st) (s, T) (o2.bind K) := by
  intro r hr n g0 g p l e R s3 m args below meth c Q hC hx hn hQ H locs ls hM hS hL
  obtain ⟨hv1, hv2⟩ := Bool.and_eq_true_iff.mp hv
  obtain ⟨T2, ho, hr⟩ : ∃ T2, o2 = some T2 ∧ K T2 = some r := by
    cases ho : o2 with
    | none => rw [ho] at hr; cases hr
    | some T2 => rw [ho] at hr; exact ⟨T2, rfl, hr⟩
  have hMet := sm_met hme.1 hme.2.1 hp ho (show sm_ro k2.2.2.2.1 (sc_j s2 T2).1 from hret) hen l g
  have hts := hC.2.2.2.2.2.1
  have hfr1 : (sm_rm k2).frames + 1 ≤ R.frames := Nat.le_trans hfr.1 hC.2.2.2.2.2.2.2.2.2.2.1
  have hfr2 : 8 + (k2.2.2.1 + 11) + (sm_rm k2).locals ≤ R.locals := by
    have h1 := hC.2.2.2.2.2.2.2.2.2.2.2.1
    have h2 := hfr.1
    have h3 := hfr.2
    show 8 + (k2.2.2.1 + 11) + 64 * k2.2.2.2.2.1 ≤ R.locals
    omega
  have hf : cs + k2.2.2.2.2.2.1 ≤ R.cells ∧ sl + k2.2.2.2.2.2.2 ≤ R.slots := ⟨Nat.le_trans hmc hC.2.2.2.2.2.2.2.2.2.2.2.2.1, Nat.le_trans hms hC.2.2.2.2.2.2.2.2.2.2.2.2.2⟩
  have hrun : va_Run p l e R s3 m args below meth c H locs cs sl k2.2.2.2.2.2.1 k2.2.2.2.2.2.2 (F0 m pc ls ((.ref b :: st).map (sm_tv g))) (st.map (sm_tv g)) (sm_Qc k2 s.length g (sc_j s2 T2) (([.ref b] : List Value).map (sm_tv g)).toArray) (sm_A g) := by
    exact va_runI (n := 0) (b := g.1 b) (As := []) ⟨hC.1, hC.2.1, hC.2.2.2.1, hC.2.2.2.2.1, hts⟩ hMet ⟨callB_of 0 hts (sm_gi2 hme.2.1) (by rw [← hret]) rfl rfl (hts _ hme.2.2.1) (hts _ hl) hme.2.2.2 ⟨hfr1, hfr2⟩, hnm, hts _ hins⟩ ⟨sm_bl, sm_pre hC hM hS⟩ rfl rfl hL.1 rfl (by rw [show (F0 m pc ls ((.ref b :: st).map (sm_tv g))).monitorRoom = 0 from rfl, sm_cats]; omega) hd hf
  refine sm_call hrun hS (fun g' H1 locs1 hx1 hR1 hS1 => ?_)
  have hAg : sm_A g' = sm_A g := sm_A_eq hx1.2.1
  have hk2 := h T2 (hwf T2 ho) r hr n g0 g' p l e R s3 m args below meth c Q (sx_C h3 hx1.1 hx1.2.1 hC) (sx_ext hk hn hx1.1 hx1.2.1 hx) (Nat.le_trans hn hlen) hQ H1 locs1 ls hR1 (by rw [hAg]; exact hS1) (sx_L hx1.1 hv1 hL)
  rw [sx_st hx1.1 hv2] at hk2
  exact hk2
theorem sc_cIN {b : Nat} (idx : Nat) (host : String) (hd : decode k.2.1 pc = .ok (.invokespecial idx, 3)) (hl : (k.1.cls, idx, k2.1, host) ∈ sm_nl) (hins : Cond.instanceMethod k2.1 ∈ sm_tb) (hnm : k2.1.name = "<init>") (hme : sm_me k2 0) (hret : k2.2.2.2.1 = none) (hfr : k2.2.2.2.2.1 + 1 ≤ k.2.2.2.2.1 ∧ k2.2.2.1 ≤ 45) (hrs : (st.map fun v => v.category).sum ≤ 8) (hen : (([.ref b] : List Value).flatMap (fun v => if v.category = 2 then [some v, none] else [some v])).length ≤ k2.2.2.1) (hk : k.2.2.2.2.2.1 ≠ 0) (hmc : cs + k2.2.2.2.2.2.1 ≤ k.2.2.2.2.2.1) (hms : sl + k2.2.2.2.2.2.2 ≤ k.2.2.2.2.2.2) (h3 : 3 ≤ s.length) (hlen : s.length ≤ s2.length) (hv : sc_ok s.length lf st = true) (hp : sm_P (sc_j s2) k2 [.ref b] (s, T) o2) (hwf : ∀ T2, o2 = some T2 → sc_wf s2.length T2) (h : ∀ T : sc_t, sc_wf s2.length T → sm_S j k (cs + k2.2.2.2.2.2.1) (sl + k2.2.2.2.2.2.2) (pc + 3) lf st (s2, T) (K T)) : sm_S j k cs sl pc lf (.ref b :: st) (s, T) (o2.bind K) := by
  intro r hr n g0 g p l e R s3 m args below meth c Q hC hx hn hQ H locs ls hM hS hL
  obtain ⟨hv1, hv2⟩ := Bool.and_eq_true_iff.mp hv
  obtain ⟨T2, ho, hr⟩ : ∃ T2, o2 = some T2 ∧ K T2 = some r := by
    cases ho : o2 with
    | none => rw [ho] at hr; cases hr
    | some T2 => rw [ho] at hr; exact ⟨T2, rfl, hr⟩
  have hMet := sm_met hme.1 hme.2.1 hp ho (show sm_ro k2.2.2.2.1 (sc_j s2 T2).1 from hret) hen l g
  have hts := hC.2.2.2.2.2.1
  have hfr1 : (sm_rm k2).frames + 1 ≤ R.frames := Nat.le_trans hfr.1 hC.2.2.2.2.2.2.2.2.2.2.1
  have hfr2 : 8 + (k2.2.2.1 + 11) + (sm_rm k2).locals ≤ R.locals := by
    have h1 := hC.2.2.2.2.2.2.2.2.2.2.2.1
    have h2 := hfr.1
    have h3 := hfr.2
    show 8 + (k2.2.2.1 + 11) + 64 * k2.2.2.2.2.1 ≤ R.locals
    omega
  have hf : cs + k2.2.2.2.2.2.1 ≤ R.cells ∧ sl + k2.2.2.2.2.2.2 ≤ R.slots := ⟨Nat.le_trans hmc hC.2.2.2.2.2.2.2.2.2.2.2.2.1, Nat.le_trans hms hC.2.2.2.2.2.2.2.2.2.2.2.2.2⟩
  have hrun : va_Run p l e R s3 m args below meth c H locs cs sl k2.2.2.2.2.2.1 k2.2.2.2.2.2.2 (F0 m pc ls ((.ref b :: st).map (sm_tv g))) (st.map (sm_tv g)) (sm_Qc k2 s.length g (sc_j s2 T2) (([.ref b] : List Value).map (sm_tv g)).toArray) (sm_A g) := by
    exact va_runIN (n := 0) (b := g.1 b) (As := []) ⟨hC.1, hC.2.1, hC.2.2.2.1, hC.2.2.2.2.1, hts⟩ hMet ⟨va_cnB 0 hts (sm_gi2 hme.2.1) (by rw [← hret]) rfl rfl (hC.2.2.2.2.2.2.2.2.2.1.2.2.2.2.2.2.2.2.1 _ hl) (hts _ hme.2.2.1) hme.2.2.2 ⟨hfr1, hfr2⟩, hnm, hts _ hins⟩ ⟨sm_bl, sm_pre hC hM hS⟩ rfl rfl hL.1 rfl (by rw [show (F0 m pc ls ((.ref b :: st).map (sm_tv g))).monitorRoom = 0 from rfl, sm_cats]; omega) hd hf
  refine sm_call hrun hS (fun g' H1 locs1 hx1 hR1 hS1 => ?_)
  have hAg : sm_A g' = sm_A g := sm_A_eq hx1.2.1
  have hk2 := h T2 (hwf T2 ho) r hr n g0 g' p l e R s3 m args below meth c Q (sx_C h3 hx1.1 hx1.2.1 hC) (sx_ext hk hn hx1.1 hx1.2.1 hx) (Nat.le_trans hn hlen) hQ H1 locs1 ls hR1 (by rw [hAg]; exact hS1) (sx_L hx1.1 hv1 hL)
  rw [sx_st hx1.1 hv2] at hk2
  exact hk2
/-- Object's own constructor -/
theorem sd_obj {M : sm_M} {b : Nat} (idx : Nat) (hl : Cond.methodLink k.1.cls idx objectInit ∈ sm_tb) (hins : Cond.instanceMethod objectInit ∈ sm_tb) (hcd : Cond.code objectInit ⟨#[0xb1]⟩ 1 none ∈ sm_tb) (hk : 1 ≤ k.2.2.2.2.1) (hrs : (st.map fun v => v.category).sum ≤ 8) (hd : decode k.2.1 pc = .ok (.invokespecial idx, 3)) (h : sm_S j k cs sl (pc + 3) lf st M o) : sm_S j k cs sl pc lf (.ref b :: st) M o := by
  intro r hr n g0 g p l e R s3 m args below meth c Q hC hx hn hQ H locs ls hM hS hL
  have hts := hC.2.2.2.2.2.1
  have hfr : 1 ≤ R.frames := Nat.le_trans hk hC.2.2.2.2.2.2.2.2.2.2.1
  refine W.objInit hC.1 hC.2.1 hC.2.2.2.2.1 (hts _ hl) (hts _ hins) (hts _ hcd) rfl (hL.1.trans hC.2.2.2.1.symm) (a := g.1 b) (rest := st.map (sm_tv g)) rfl hd hfr (by
    rw [show (F0 m pc ls ((.ref b :: st).map (sm_tv g))).monitorRoom = 0 from rfl, sm_cats]
    have h1 := hC.2.2.2.2.2.2.2.2.2.2.2.1
    omega) ?_
  exact h r hr n g0 g p l e R s3 m args below meth c Q hC hx hn hQ H locs ls hM hS hL
theorem sc_vret (hd : decode k.2.1 pc = .ok (.return_, 1)) (hcs : cs ≤ k.2.2.2.2.2.1) (hsl : sl ≤ k.2.2.2.2.2.2) : sm_S (sc_j s) k cs sl pc lf [] (s, T) (some T) := by
  intro r hr n g0 g p l e R s3 m args below meth c Q hC hx hn hQ H locs ls hM hS hL
  cases hr
  exact hQ g H locs ls pc cs sl hx hM (sm_A_eq hx.2.1 ▸ hS) hcs hsl hd (fun _ hu => by cases hu)
def sc_wI (T : sc_t) (a i : Nat) (x : Int32) : sc_t := (va_up T.1 a (upd (T.1 a) i x), T.2)
def sc_wL (T : sc_t) (a i : Nat) (x : Int64) : sc_t := (T.1, va_up T.2.1 a (vp_updL (T.2.1 a) i x), T.2.2)
def sc_wR (T : sc_t) (a i : Nat) (x : Option Nat) : sc_t := (T.1, T.2.1, va_up T.2.2 a (va_up (T.2.2 a) i x))
theorem sc_wR_wf {n a i : Nat} {x : Option Nat} (hx : ∀ b, x = some b → b < n) (h : sc_wf n T) : sc_wf n (sc_wR T a i x) := fun y z b hb => by
  by_cases e : y = a
  · subst e
    by_cases e2 : z = i
    · subst e2
      simp only [sc_wR, sm_up_s] at hb
      exact hx b hb
    · simp only [sc_wR, sm_up_s, sm_up_o _ _ e2] at hb
      exact h _ _ _ hb
  · simp only [sc_wR, sm_up_o _ _ e] at hb
    exact h _ _ _ hb
theorem sc_putI {a idx ci i : Nat} {x : Int32} (hs : s[a]? = some (.inr ci)) (h3 : 3 ≤ a) (hk : sm_tf ci i = .int ∨ sm_tf ci i = .boolean ∧ (x = 0 ∨ x = 1)) (hf : sm_fl k.1.cls idx ci i) (hfin : (sm_T ci i).2.2.2 = false ∨ ((sm_T ci i).2.2.2 = true ∧ k.1.name = "<init>" ∧ (sm_T ci i).1 = k.1.cls)) (hw : sc_wf s.length T) (hd : decode k.2.1 pc = .ok (.putfield idx, 3)) (h : ∀ T : sc_t, sc_wf s.length T → sm_S j k cs sl (pc + 3) lf st (s, T) (K T)) : sm_S j k cs sl pc lf (.int x :: .ref a :: st) (s, T) (sm_n (sc_wI T a i x) K) :=
  sd_put h3 hs hf hfin (fun g => by
    rcases hk with hk | ⟨hk, hx⟩
    · rw [hk]; exact ⟨rfl, rfl⟩
    · rw [hk]; rcases hx with rfl | rfl <;> exact ⟨rfl, rfl⟩) (M' := (s, sc_wI T a i x)) rfl (fun b hb => ⟨sm_up_o _ _ hb, rfl, rfl⟩) (fun g z hz => by
    have hkd : sm_kd (sm_tf ci i) = 0 := by rcases hk with hk | ⟨hk, -⟩ <;> rw [hk] <;> rfl
    by_cases e : z = i
    · subst e
      rw [if_pos rfl]
      simp only [sm_fv, hkd, sc_wI, sm_up_s, upd, if_pos]
      rfl
    · rw [if_neg e]
      simp only [sm_fv, sc_wI, sm_up_s, upd, if_neg e]) hd (h _ hw)
theorem sc_putL {a idx ci i : Nat} {x : Int64} (hs : s[a]? = some (.inr ci)) (h3 : 3 ≤ a) (hk : sm_tf ci i = .long) (hf : sm_fl k.1.cls idx ci i) (hfin : (sm_T ci i).2.2.2 = false) (hw : sc_wf s.length T) (hd : decode k.2.1 pc = .ok (.putfield idx, 3)) (h : ∀ T : sc_t, sc_wf s.length T → sm_S j k cs sl (pc + 3) lf st (s, T) (K T)) : sm_S j k cs sl pc lf (.long x :: .ref a :: st) (s, T) (sm_n (sc_wL T a i x) K) :=
  sd_put h3 hs hf (Or.inl hfin) (fun g => by rw [hk]; exact ⟨rfl, rfl⟩) (M' := (s, sc_wL T a i x)) rfl (fun b hb => ⟨rfl, sm_up_o _ _ hb, rfl⟩) (fun g z hz => by
    by_cases e : z = i
    · subst e
      rw [if_pos rfl]
      simp only [sm_fv, hk, sm_kd, sc_wL, sm_up_s, vp_updL, if_pos]
      rfl
    · rw [if_neg e]
      simp only [sm_fv, sc_wL, sm_up_s, vp_updL, if_neg e]) hd (h _ hw)
theorem sc_putR {a idx ci i b : Nat} (hs : s[a]? = some (.inr ci)) (h3 : 3 ≤ a) (hk : sm_kd (sm_tf ci i) = 2) (hk2 : ∀ v : Nat, narrow (sm_tf ci i) (.ref v) = .ref v ∧ fits (sm_tf ci i) (.ref v) = true) (hb : b < s.length) (hf : sm_fl k.1.cls idx ci i) (hfin : (sm_T ci i).2.2.2 = false ∨ ((sm_T ci i).2.2.2 = true ∧ k.1.name = "<init>" ∧ (sm_T ci i).1 = k.1.cls)) (hw : sc_wf s.length T) (hd : decode k.2.1 pc = .ok (.putfield idx, 3)) (h : ∀ T : sc_t, sc_wf s.length T → sm_S j k cs sl (pc + 3) lf st (s, T) (K T)) : sm_S j k cs sl pc lf (.ref b :: .ref a :: st) (s, T) (sm_n (sc_wR T a i (some b)) K) :=
  sd_put h3 hs hf hfin (fun g => hk2 (g.1 b)) (M' := (s, sc_wR T a i (some b))) rfl (fun x hx => ⟨rfl, rfl, sm_up_o _ _ hx⟩) (fun g z hz => by
    by_cases e : z = i
    · subst e
      rw [if_pos rfl]
      simp only [sm_fv, hk, sc_wR, sm_up_s]
      rfl
    · rw [if_neg e]
      simp only [sm_fv, sc_wR, sm_up_s, sm_up_o _ _ e]) hd (h _ (sc_wR_wf (fun c hc => by cases hc; exact hb) hw))
theorem sc_putN {a idx ci i : Nat} (hs : s[a]? = some (.inr ci)) (h3 : 3 ≤ a) (hk : sm_kd (sm_tf ci i) = 2) (hk2 : narrow (sm_tf ci i) .null = .null ∧ fits (sm_tf ci i) .null = true) (hf : sm_fl k.1.cls idx ci i) (hfin : (sm_T ci i).2.2.2 = false) (hw : sc_wf s.length T) (hd : decode k.2.1 pc = .ok (.putfield idx, 3)) (h : ∀ T : sc_t, sc_wf s.length T → sm_S j k cs sl (pc + 3) lf st (s, T) (K T)) : sm_S j k cs sl pc lf (.null :: .ref a :: st) (s, T) (sm_n (sc_wR T a i none) K) :=
  sd_put h3 hs hf (Or.inl hfin) (fun g => hk2) (M' := (s, sc_wR T a i none)) rfl (fun x hx => ⟨rfl, rfl, sm_up_o _ _ hx⟩) (fun g z hz => by
    by_cases e : z = i
    · subst e
      rw [if_pos rfl]
      simp only [sm_fv, hk, sc_wR, sm_up_s]
      rfl
    · rw [if_neg e]
      simp only [sm_fv, sc_wR, sm_up_s, sm_up_o _ _ e]) hd (h _ (sc_wR_wf (fun c hc => by cases hc) hw))
theorem sc_getR {a idx ci i : Nat} (b : Nat) (hs : s[a]? = some (.inr ci)) (h3 : 3 ≤ a) (hk : sm_kd (sm_tf ci i) = 2) (hf : sm_fl k.1.cls idx ci i) (hd : decode k.2.1 pc = .ok (.getfield idx, 3)) (h : sm_S j k cs sl (pc + 3) lf (.ref b :: st) (s, T) o) : sm_S j k cs sl pc lf (.ref a :: st) (s, T) (if T.2.2 a i = some b then o else none) :=
  sd_ite (fun q => sd_get h3 hs hf (v := .ref b) (fun g => by simp only [sm_fv, hk, q]; rfl) hd h) (fun _ => sd_none)
theorem sc_iast {a n : Nat} {i x : Int32} (hs : s[a]? = some (.inl (.int, n))) (h3 : 3 ≤ a) (hi : sm_ix i n = true) (hw : sc_wf s.length T) (hd : decode k.2.1 pc = .ok (.iastore, 1)) (h : ∀ T : sc_t, sc_wf s.length T → sm_S j k cs sl (pc + 1) lf st (s, T) (K T)) : sm_S j k cs sl pc lf (.int x :: .int i :: .ref a :: st) (s, T) (sm_n (sc_wI T a i.toNatClampNeg x) K) := by
  intro r hr nn g0 g p l e R s3 m args below meth c Q hC hx hn hQ H locs ls hM hS hL
  have hw2 : (sm_w g (s, T))[a - 3]? = some (g.1 a, .inl (g.2.2.2.2.2 .int, n, .inl (T.1 a))) := sm_w_at (M := (s, T)) hs h3
  refine va_iast hC.1 hC.2.1 hC.2.2.2.2.2.2.2.2.2.1.1 hM.2.1 hM.2.2 hS (a - 3) 0 hw2 rfl (sm_ix_in hi) hd (fun H1 locs1 hP1 hD1 hS1 => ?_)
  exact h (sc_wI T a i.toNatClampNeg x) hw r hr nn g0 g p l e R s3 m args below meth c Q hC hx hn hQ H1 locs1 ls (sm_R_set (M' := (s, sc_wI T a i.toNatClampNeg x)) hM rfl (fun b hb => ⟨sm_up_o _ _ hb, rfl, rfl⟩) hs h3 (by simp only [sm_ce, sm_ar, sm_kd, sc_wI, sm_up_s]) hP1 hD1) hS1 hL
theorem sc_aast {a n b : Nat} {i : Int32} (hs : s[a]? = some (.inl (.object "TwoFliers$Sign", n))) (h3 : 3 ≤ a) (hb : s[b]? = some (.inr 5)) (hb3 : 3 ≤ b) (hi : sm_ix i n = true) (hw : sc_wf s.length T) (hd : decode k.2.1 pc = .ok (.aastore, 1)) (h : ∀ T : sc_t, sc_wf s.length T → sm_S j k cs sl (pc + 1) lf st (s, T) (K T)) : sm_S j k cs sl pc lf (.ref b :: .int i :: .ref a :: st) (s, T) (sm_n (sc_wR T a i.toNatClampNeg (some b)) K) := by
  intro r hr nn g0 g p l e R s3 m args below meth c Q hC hx hn hQ H locs ls hM hS hL
  have hw2 : (sm_w g (s, T))[a - 3]? = some (g.1 a, .inl (g.2.2.2.2.2 (.object "TwoFliers$Sign"), n, .inr (.inr (.inr (.inr (fun i => (T.2.2 a i).map g.1)))))) := sm_w_at (M := (s, T)) hs h3
  refine va_astq (r := (RX6, TX6, 5)) hC.1 hC.2.1 hC.2.2.2.2.2.2.2.2.2.1.1 hM.2.1 hM.2.2 hS (a - 3) 6 (b - 3) 5 hw2 rfl (sm_w_at (M := (s, T)) hb hb3) rfl (sm_ix_in hi) hd (fun H1 locs1 hP1 hD1 hS1 => ?_)
  have hbl : b < s.length := (List.getElem?_eq_some_iff.mp hb).1
  exact h _ (sc_wR_wf (fun c hc => by cases hc; exact hbl) hw) r hr nn g0 g p l e R s3 m args below meth c Q hC hx hn hQ H1 locs1 ls (sm_R_set (M' := (s, sc_wR T a i.toNatClampNeg (some b))) hM rfl (fun x hx => ⟨rfl, rfl, sm_up_o _ _ hx⟩) hs h3 (by
    simp only [sm_ce, sm_ar, sm_kd, sc_wR, sm_up_s]
    congr 7
    funext z
    by_cases e : z = i.toNatClampNeg
    · subst e
      rw [sm_up_s, sm_up_s]
      rfl
    · rw [sm_up_o _ _ e, sm_up_o _ _ e]) hP1 hD1) hS1 hL
theorem sd_cast {M M' : sm_M} {st' : List Value} {cs' sl' : Nat} (hM : M = M') (hst : st = st') (hc : cs = cs') (hl : sl = sl') (h : sm_S j k cs' sl' pc lf st' M' o) : sm_S j k cs sl pc lf st M o := by
  subst hM; subst hst; subst hc; subst hl
  exact h
theorem sd_brf {c : Prop} [Decidable c] {M : sm_M} {o1 o2 : Option ρ} (hc : ¬ c) (h : sm_S j k cs sl pc lf st M (if c then o1 else o2)) : sm_S j k cs sl pc lf st M o2 := by
  rw [if_neg hc] at h
  exact h
theorem sd_brt {c : Prop} [Decidable c] {M : sm_M} {o1 o2 : Option ρ} (hc : c) (h : sm_S j k cs sl pc lf st M (if c then o1 else o2)) : sm_S j k cs sl pc lf st M o1 := by
  rw [if_pos hc] at h
  exact h
end
/-- references stay among the cells that there are -/
def sc_ow (n : Nat) (o : Option sc_t) : Prop := ∀ T2, o = some T2 → sc_wf n T2
section
variable {n m a i : Nat} {T : sc_t} {K : sc_t → Option sc_t} {o : Option sc_t}
theorem ow_z (hw : sc_wf n T) (h : ∀ T, sc_wf (n + 1) T → sc_ow m (K T)) : sc_ow m (sm_n (sc_z T a) K) := h _ (sc_z_wf hw)
theorem ow_zm {N : Nat} (hw : sc_wf n T) (h : ∀ T, sc_wf (n + (N + 1)) T → sc_ow m (K T)) : sc_ow m (sm_n (sc_zm T n N) K) := h _ (sc_zm_wf hw)
theorem ow_I {x : Int32} (hw : sc_wf n T) (h : ∀ T, sc_wf n T → sc_ow m (K T)) : sc_ow m (sm_n (sc_wI T a i x) K) := h (sc_wI T a i x) hw
theorem ow_L {x : Int64} (hw : sc_wf n T) (h : ∀ T, sc_wf n T → sc_ow m (K T)) : sc_ow m (sm_n (sc_wL T a i x) K) := h (sc_wL T a i x) hw
theorem ow_R {b : Nat} (hb : b < n) (hw : sc_wf n T) (h : ∀ T, sc_wf n T → sc_ow m (K T)) : sc_ow m (sm_n (sc_wR T a i (some b)) K) := h _ (sc_wR_wf (fun c hc => by cases hc; exact hb) hw)
theorem ow_N (hw : sc_wf n T) (h : ∀ T, sc_wf n T → sc_ow m (K T)) : sc_ow m (sm_n (sc_wR T a i none) K) := h _ (sc_wR_wf (fun c hc => by cases hc) hw)
theorem ow_if {c : Prop} [Decidable c] (h : sc_ow m o) : sc_ow m (if c then o else none) := fun T2 h2 => by
  split at h2
  · exact h T2 h2
  · cases h2
theorem ow_c (ho : sc_ow n o) (h : ∀ T, sc_wf n T → sc_ow m (K T)) : sc_ow m (o.bind K) := fun T2 h2 => by
  cases e : o with
  | none => rw [e] at h2; cases h2
  | some T1 => rw [e] at h2; exact h T1 (ho T1 e) T2 h2
theorem ow_r (hw : sc_wf n T) : sc_ow n (some T) := fun T2 h2 => by cases h2; exact hw
end
/-- the cells that there are, stage by stage -/
def sc_sh (n m : Nat) : sm_Sh := (sm_s0 n).take m
