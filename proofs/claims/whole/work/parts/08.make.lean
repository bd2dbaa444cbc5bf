/-! ===== making cells: constructors ===== -/
def va_AOA (ty : FieldType) (U : State) : Prop := (Cond.arrayOver (.array ty)).before #[] U = true
theorem va_AOA.use {ty : FieldType} {A : Array Value} {U : State} (h : va_AOA ty U) : (Cond.arrayOver (.array ty)).before A U = true := h
/-! ===== BEGIN new T[n][m]: the outer array a place, the inner ones among the pooled ===== -/
/-- f, but v at every address of l -/
def vr_up {α : Type} (f : Nat → α) (l : List Nat) (v : α) : Nat → α := fun a => if a ∈ l then v else f a
theorem vr_up_in {α : Type} {f : Nat → α} {l : List Nat} {v : α} {a : Nat} (h : a ∈ l) : vr_up f l v a = v := if_pos h
theorem vr_up_ne {α : Type} {f : Nat → α} {l : List Nat} {v : α} {a : Nat} (h : a ∉ l) : vr_up f l v a = f a := if_neg h
theorem vr_rows {L l : List Nat} {f : Nat → va_E} {e : va_E} (h : ∀ a, a ∈ l → a ∉ L) : va_pl L f ++ l.map (fun a => (a, e)) = va_pl (L ++ l) (vr_up f l e) := by
  unfold va_pl
  rw [List.map_append]
  congr 1
  · apply List.map_congr_left
    intro a ha
    rw [vr_up_ne (fun q => h a q ha)]
  · apply List.map_congr_left
    intro a ha
    rw [vr_up_in ha]
theorem vr_lay {X rows : va_W} {x : Nat × va_E} {pl : va_W} {D : va_G} {cl : List vw_C} {H : Heap} (hP : va_P D cl (((X ++ pl) ++ [x]) ++ rows) H) : va_P D cl ((X ++ [x]) ++ (pl ++ rows)) H := by
  rw [List.append_assoc (X ++ pl)] at hP
  have h := va_P.swap hP
  rw [← List.append_assoc X] at h
  have h2 := va_P.swap h
  rw [List.append_assoc (X ++ [x])] at h2
  exact h2
theorem vr_layD {X rows : va_W} {x : Nat × va_E} {pl : va_W} {A : Nat → Prop} (hD : va_D A (((X ++ pl) ++ [x]) ++ rows)) : va_D A ((X ++ [x]) ++ (pl ++ rows)) := by
  rw [List.append_assoc (X ++ pl)] at hD
  have h := va_D.swap hD
  rw [← List.append_assoc X] at h
  have h2 := va_D.swap h
  rw [List.append_assoc (X ++ [x])] at h2
  exact h2
section VGM
variable {p : Program} {l : Launch} {e : Env} {R : Room} {s : State} {m : MethodId} {args : Array Value} {below : List Frame} {meth : Method} {c : Code} {H : Heap} {locs : List Loc} {cells slots : Nat} {Q : State → Prop}
variable {cc : ByteArray} {pc : Nat} {ls : Array Slot} {rest : List Value} {D : va_G} {cl : List vw_C} {A : Nat → Prop} {a : Nat} {tys : List (ClassId × FieldType)} {ws : va_W} {H0 : Heap}
theorem va_mna {X : va_W} {L : List Nat} {f : Nat → va_E} {cc : ByteArray} (hexec : p.tables.exec = Jvm.exec) (hb : c.code = cc) {own : String} {index : Nat} {ty : FieldType} {cy : ClassId} (hown : s.vm.findClass own = some m.cls) (hclink : (Cond.classLink own index ("[" ++ (FieldType.array ty).toString)).before args s = true) (hover : va_AOA ty s) (harr : (Cond.arrayClass ty).before args s = true) (hcy : s.vm.findClass (FieldType.array ty).toString = some cy)
    (hK : va_K D cl tys s) (hP : va_P D cl (X ++ va_pl L f) H) (hD : va_D A (X ++ va_pl L f)) (hS : va_S A H0 H locs) (hA : ∀ q, H0.size ≤ q → A q) {n k : Int32} {N' K' : Nat} {z : vp_A} (hn : ¬ n < 0) (hk : ¬ k < 0) (hN : n.toNatClampNeg = N') (hM : k.toNatClampNeg = K')
    (hb1 : N' * 4 ≤ 536870912) (hb2 : K' * componentBytes ty ≤ 536870912) (hb3 : K' ≤ 536870912) (hdf : fits ty (defaultValue ty) = true) (hdd : (defaultValue ty).isDefault = true) (hcells : cells + (1 + N') ≤ R.cells) (hslots : slots + (N' + N' * K') ≤ R.slots) (hz : ∀ c : ClassId, mg_row c K' (defaultValue ty) = vp_cell c z) (hdg : decode cc pc = .ok (.multianewarray index 2, 4))
    (kk : ∀ (q : Nat) (r : Nat → Nat) (cA : ClassId) (H1 : Heap), (∀ i j : Nat, i < N' → j < N' → r i = r j → i = j) → (∀ i : Nat, i < N' → r i ∉ L) → va_K D cl (tys ++ [(cA, .array ty)]) s →
      va_P D cl ((X ++ [(q, .inl (cA, N', .inr (.inr (.inr (.inr (fun i => if i < N' then some (r i) else none))))))]) ++ va_pl (L ++ (List.range N').map r) (vr_up f ((List.range N').map r) (.inl (cy, z)))) H1 → va_D A ((X ++ [(q, .inl (cA, N', .inr (.inr (.inr (.inr (fun i => if i < N' then some (r i) else none))))))]) ++ va_pl (L ++ (List.range N').map r) (vr_up f ((List.range N').map r) (.inl (cy, z)))) → va_S A H0 H1 locs →
      W p l e R s m args below meth c H1 locs (cells + 1 + N') (slots + N' + N' * K') Q (F0 m (pc + 4) ls (.ref q :: rest))) : W p l e R s m args below meth c H locs cells slots Q (F0 m pc ls (.int k :: .int n :: rest)) := by
  subst hN
  subst hM
  intro T hT Xs
  obtain ⟨vm₁, cA, comp, fA, fC, hAr, X', step⟩ := mg_multi Xs hexec hown hclink (va_AOA.use hover) harr (g := F0 m pc ls (.int k :: .int n :: rest)) rfl (by rw [hb]; exact hdg) rfl hn hk hb1 hb2 hb3 hdf hcells hslots
  have ec : some cy = some comp := hcy.symm.trans fC
  cases ec
  generalize hF : mg_st (T.setVm vm₁) cA cy n.toNatClampNeg k.toNatClampNeg (defaultValue ty) n.toNatClampNeg = F at X' step
  have hTh : (T.setVm vm₁).heap = H := hT
  have f1 := mg_size (T.setVm vm₁) cA cy n.toNatClampNeg k.toNatClampNeg (defaultValue ty) n.toNatClampNeg
  have f2 := mg_top (T.setVm vm₁) cA cy n.toNatClampNeg k.toNatClampNeg (defaultValue ty) n.toNatClampNeg
  rw [hF, hTh] at f1 f2
  have hold : ∀ x : Nat, x < H.size → F.heap[x]? = H[x]? := fun x hx => by
    have := mg_old (T.setVm vm₁) cA cy n.toNatClampNeg k.toNatClampNeg (defaultValue ty) n.toNatClampNeg (a := x) (by rw [hTh]; exact hx)
    rw [hF, hTh] at this
    exact this
  have hrow : ∀ j : Nat, j < n.toNatClampNeg → F.heap[H.size + 1 + j]? = some (vp_cell cy z) := fun j hj => by
    have := mg_in (T.setVm vm₁) cA cy n.toNatClampNeg k.toNatClampNeg (defaultValue ty) n.toNatClampNeg hj
    rw [hF, hTh, hz] at this
    exact this
  have hout : mg_out cA n.toNatClampNeg H.size n.toNatClampNeg = vp_cell cA (n.toNatClampNeg, .inr (.inr (.inr (.inr (fun i => if i < n.toNatClampNeg then some (H.size + 1 + i) else none))))) := by
    rw [vp_cell_q]
    rfl
  rw [hout] at f2
  have hlt : ∀ a, a ∈ L → a < H.size := fun a ha => by
    obtain ⟨k9, hk9⟩ := va_pl_get (X := X) (f := f) ha
    exact (hP k9 _ hk9).lt
  have hnl : ∀ i : Nat, i < n.toNatClampNeg → H.size + 1 + i ∉ L := fun i _ h => by
    have := hlt _ h
    omega
  have hnm : ∀ a, a ∈ (List.range n.toNatClampNeg).map (fun i => H.size + 1 + i) → a ∉ L := fun a ha h => by
    obtain ⟨i, -, rfl⟩ := List.mem_map.mp ha
    have := hlt _ h
    omega
  have hP0 : va_P D cl (X ++ va_pl L f) F.heap := hP.kept (fun k9 x hx => hold x.1 ((hP k9 x hx).lt))
  have hP1 : va_P D cl ((X ++ va_pl L f) ++ [(H.size, .inl (cA, n.toNatClampNeg, .inr (.inr (.inr (.inr (fun i => if i < n.toNatClampNeg then some (H.size + 1 + i) else none))))))]) F.heap := hP0.app (fun k9 x hx => by
    have h0 : k9 < 1 := (List.getElem?_eq_some_iff.mp hx).1
    rw [show k9 = 0 by omega] at hx
    cases hx
    exact f2)
  have hP2 : va_P D cl (((X ++ va_pl L f) ++ [(H.size, .inl (cA, n.toNatClampNeg, .inr (.inr (.inr (.inr (fun i => if i < n.toNatClampNeg then some (H.size + 1 + i) else none))))))]) ++ ((List.range n.toNatClampNeg).map (fun i => H.size + 1 + i)).map (fun a => (a, .inl (cy, z)))) F.heap := hP1.app (fun k9 x hx => by
    obtain ⟨a, ha, rfl⟩ := List.mem_map.mp (List.mem_of_getElem? hx)
    obtain ⟨i, hi, rfl⟩ := List.mem_map.mp ha
    exact hrow i (List.mem_range.mp hi))
  have hD2 : va_D A (((X ++ va_pl L f) ++ [(H.size, .inl (cA, n.toNatClampNeg, .inr (.inr (.inr (.inr (fun i => if i < n.toNatClampNeg then some (H.size + 1 + i) else none))))))]) ++ ((List.range n.toNatClampNeg).map (fun i => H.size + 1 + i)).map (fun a => (a, .inl (cy, z)))) := by
    have hD1 := hD.push (e := .inl (cA, n.toNatClampNeg, .inr (.inr (.inr (.inr (fun i => if i < n.toNatClampNeg then some (H.size + 1 + i) else none)))))) hP rfl (hA _ hS.1)
    generalize hW1 : (X ++ va_pl L f) ++ [(H.size, .inl (cA, n.toNatClampNeg, .inr (.inr (.inr (.inr (fun i => if i < n.toNatClampNeg then some (H.size + 1 + i) else none))))))] = W1 at hD1 hP1 ⊢
    have hle : ∀ (k9 : Nat) (x : Nat × va_E), W1[k9]? = some x → x.1 ≤ H.size := fun k9 x hx => by
      rw [← hW1] at hx
      by_cases hl : k9 < (X ++ va_pl L f).length
      · rw [List.getElem?_append_left hl] at hx
        exact Nat.le_of_lt ((hP k9 x hx).lt)
      · rw [List.getElem?_append_right (by omega)] at hx
        have h0 : k9 - (X ++ va_pl L f).length < 1 := (List.getElem?_eq_some_iff.mp hx).1
        rw [show k9 - (X ++ va_pl L f).length = 0 by omega] at hx
        cases hx
        exact Nat.le_refl _
    have hr : ∀ (k9 : Nat) (x : Nat × va_E), (((List.range n.toNatClampNeg).map (fun i => H.size + 1 + i)).map (fun a => ((a, .inl (cy, z)) : Nat × va_E)))[k9]? = some x → x.1 = H.size + 1 + k9 := fun k9 x hx => by
      rw [List.getElem?_map, List.getElem?_map] at hx
      by_cases h9 : k9 < n.toNatClampNeg
      · rw [List.getElem?_range h9] at hx
        cases hx
        rfl
      · have hn0 : (List.range n.toNatClampNeg)[k9]? = none := List.getElem?_eq_none (by rw [List.length_range]; omega)
        rw [hn0] at hx
        cases hx
    refine ⟨fun i j x y hi hj hxy => ?_, fun k9 x hx => ?_⟩
    · by_cases h1 : i < W1.length <;> by_cases h2 : j < W1.length
      · rw [List.getElem?_append_left h1] at hi
        rw [List.getElem?_append_left h2] at hj
        exact hD1.1 i j x y hi hj hxy
      · rw [List.getElem?_append_left h1] at hi
        rw [List.getElem?_append_right (by omega)] at hj
        have := hle _ _ hi
        have := hr _ _ hj
        omega
      · rw [List.getElem?_append_right (by omega)] at hi
        rw [List.getElem?_append_left h2] at hj
        have := hle _ _ hj
        have := hr _ _ hi
        omega
      · rw [List.getElem?_append_right (by omega)] at hi hj
        have := hr _ _ hi
        have := hr _ _ hj
        omega
    · by_cases h1 : k9 < W1.length
      · rw [List.getElem?_append_left h1] at hx
        exact hD1.2 k9 x hx
      · rw [List.getElem?_append_right (by omega)] at hx
        have := hr _ _ hx
        exact hA _ (by have := hS.1; omega)
  have hK2 : va_K D cl (tys ++ [(cA, .array ty)]) s := ⟨hK.1, fun k9 x hx => by
    by_cases hl : k9 < tys.length
    · rw [List.getElem?_append_left hl] at hx
      exact hK.2 k9 x hx
    · rw [List.getElem?_append_right (by omega)] at hx
      have h0 : k9 - tys.length < 1 := (List.getElem?_eq_some_iff.mp hx).1
      rw [show k9 - tys.length = 0 by omega] at hx
      cases hx
      exact ⟨hAr, fA⟩⟩
  obtain ⟨t, a1, b1⟩ := kk H.size (fun i => H.size + 1 + i) cA F.heap (fun i j _ _ h => by have h9 : H.size + 1 + i = H.size + 1 + j := h; omega) hnl hK2 (by rw [← vr_rows hnm]; exact vr_lay hP2) (by rw [← vr_rows hnm]; exact vr_layD hD2) ⟨by rw [f1]; have := hS.1; omega, fun x h1 h2 => (hold x (Nat.lt_of_lt_of_le h1 hS.1)).trans (hS.2.1 x h1 h2), hS.2.2⟩ F rfl X'
  refine ⟨t, step t ?_, b1⟩
  have e : T.heap.size = H.size := by rw [hT]
  rw [e]
  exact a1
end VGM
abbrev sc_t : Type := (Nat → Nat → Int32) × (Nat → Nat → Int64) × (Nat → Nat → Option Nat)
def sc_wf (n : Nat) (T : sc_t) : Prop := ∀ a i b : Nat, T.2.2 a i = some b → b < n
def sc_ov (n : Nat) (v : Value) : Bool := match v with
  | .ref a => decide (a < n)
  | _ => true
def sc_ol (n : Nat) (o : Option Value) : Bool := match o with
  | some v => sc_ov n v
  | none => true
def sc_ok (n : Nat) (lf : List (Option Value)) (st : List Value) : Bool := lf.all (sc_ol n) && st.all (sc_ov n)
def sc_g (g : sm_G) (n m : Nat) (ads : Nat → Nat) : sm_G := (fun i => if n ≤ i ∧ i < n + m then ads (i - n) else g.1 i, g.2)
theorem sc_g_lt (g : sm_G) {n m i : Nat} (ads : Nat → Nat) (h : i < n) : (sc_g g n m ads).1 i = g.1 i := if_neg (by omega)
theorem sc_g_in (g : sm_G) {n m i : Nat} (ads : Nat → Nat) (h : i < m) : (sc_g g n m ads).1 (n + i) = ads i := by
  show (if n ≤ n + i ∧ n + i < n + m then ads (n + i - n) else _) = _
  rw [if_pos (by omega), Nat.add_sub_cancel_left]
theorem sc_ce {g g' : sm_G} {s s' : sm_Sh} {T T' : sc_t} {n b : Nat} (hg : g'.2 = g.2) (hi : ∀ i, i < n → g'.1 i = g.1 i) (hw : sc_wf n T) (h1 : T'.1 b = T.1 b) (h2 : T'.2.1 b = T.2.1 b) (h3 : T'.2.2 b = T.2.2 b) (x : (FieldType × Nat) ⊕ Nat) : sm_ce g' (s', T') b x = sm_ce g (s, T) b x := by
  have hr : ∀ i, (T.2.2 b i).map g'.1 = (T.2.2 b i).map g.1 := fun i => by
    cases e : T.2.2 b i with
    | none => rfl
    | some c => simp only [Option.map_some]; rw [hi c (hw _ _ _ e)]
  cases x with
  | inl q =>
    simp only [sm_ce, sm_ar, h1, h2, h3, hg]
    congr 2
    split
    · rfl
    · rfl
    · congr 5
      exact funext hr
  | inr ci =>
    have e : sm_fv g' (s', T') b ci = sm_fv g (s, T) b ci := funext fun i => by
      simp only [sm_fv, h1, h2, h3]
      rw [hr i]
    simp only [sm_ce, e]
theorem sm_w_len (g : sm_G) (M : sm_M) : (sm_w g M).length = M.1.length - 3 := by simp [sm_w]
theorem sc_w {g : sm_G} {s xs : sm_Sh} {T T' : sc_t} {ads : Nat → Nat} (h3 : 3 ≤ s.length) (hw : sc_wf s.length T) (ho : ∀ b, b < s.length → T'.1 b = T.1 b ∧ T'.2.1 b = T.2.1 b ∧ T'.2.2 b = T.2.2 b) : sm_w (sc_g g s.length xs.length ads) (s ++ xs, T') = sm_w g (s, T) ++ xs.zipIdx.map (fun q => (ads q.2, sm_ce (sc_g g s.length xs.length ads) (s ++ xs, T') (s.length + q.2) q.1)) := by
  apply List.ext_getElem?
  intro j
  rw [sm_w_get]
  by_cases hj : j + 3 < s.length
  · rw [List.getElem?_append_left hj, List.getElem?_append_left (by rw [sm_w_len]; show j < s.length - 3; omega), sm_w_get]
    show (s[j + 3]?).map _ = (s[j + 3]?).map _
    obtain ⟨o1, o2, o3⟩ := ho _ hj
    cases s[j + 3]? with
    | none => rfl
    | some y =>
      simp only [Option.map_some]
      rw [sc_g_lt g ads hj, sc_ce (g := g) (g' := sc_g g s.length xs.length ads) (s := s) (s' := s ++ xs) (T' := T') rfl (fun i hi => sc_g_lt g ads hi) hw o1 o2 o3]
  · rw [List.getElem?_append_right (by omega), List.getElem?_append_right (by rw [sm_w_len]; show s.length - 3 ≤ j; omega), sm_w_len, List.getElem?_map, List.getElem?_zipIdx]
    show Option.map _ (xs[j + 3 - s.length]?) = Option.map _ (Option.map _ (xs[j - (s.length - 3)]?))
    rw [show j + 3 - s.length = j - (s.length - 3) by omega]
    cases hx : xs[j - (s.length - 3)]? with
    | none => rfl
    | some y =>
      simp only [Option.map_some]
      have hl : j - (s.length - 3) < xs.length := (List.getElem?_eq_some_iff.mp hx).1
      have e : j + 3 = s.length + (j - (s.length - 3)) := by omega
      rw [e, sc_g_in g ads hl]
      simp
theorem sc_C {k : sm_K} {g : sm_G} {p : Program} {R : Room} {s : State} {m : MethodId} {args : Array Value} {meth : Method} {c : Code} {n w : Nat} (ads : Nat → Nat) (h3 : 3 ≤ n) (h : sm_C k g p R s m args meth c) : sm_C k (sc_g g n w ads) p R s m args meth c := by
  obtain ⟨c1, c2, c3, c4, c5, c6, c7, c8, c9, c10, c11⟩ := h
  refine ⟨c1, c2, c3, c4, c5, c6, c7, c8, c9, ?_, c11⟩
  have e0 : (sc_g g n w ads).1 0 = g.1 0 := sc_g_lt g ads (by omega)
  have e1 : (sc_g g n w ads).1 1 = g.1 1 := sc_g_lt g ads (by omega)
  have e2 : (sc_g g n w ads).1 2 = g.1 2 := sc_g_lt g ads (by omega)
  unfold sm_X
  rw [e0, e1, e2]
  exact c10
theorem sc_ext {k : sm_K} {g0 g : sm_G} {n0 n w : Nat} (ads : Nat → Nat) (hk : k.2.2.2.2.2.1 ≠ 0) (hn : n0 ≤ n) (h : sm_ext k n0 g0 g) : sm_ext k n0 g0 (sc_g g n w ads) := ⟨fun i hi => (sc_g_lt g ads (by omega)).trans (h.1 i hi), h.2.1, fun z => absurd z hk⟩
theorem sc_tv (g : sm_G) {n w : Nat} (ads : Nat → Nat) {v : Value} (h : sc_ov n v = true) : sm_tv (sc_g g n w ads) v = sm_tv g v := by
  cases v with
  | ref a =>
    have ha : a < n := by simpa [sc_ov] using h
    show Value.ref _ = Value.ref _
    rw [sc_g_lt g ads ha]
  | _ => rfl
theorem sc_st (g : sm_G) {n w : Nat} (ads : Nat → Nat) {st : List Value} (h : st.all (sc_ov n) = true) : st.map (sm_tv (sc_g g n w ads)) = st.map (sm_tv g) := List.map_congr_left fun v hv => sc_tv g ads (List.all_eq_true.mp h v hv)
theorem sc_L {g : sm_G} {n w q : Nat} (ads : Nat → Nat) {lf : List (Option Value)} {ls : Array Slot} (h : lf.all (sc_ol n) = true) (hL : sm_L g q lf ls) : sm_L (sc_g g n w ads) q lf ls := ⟨hL.1, hL.2.1, fun i v hv => by
  have h1 := List.all_eq_true.mp h _ (List.mem_of_getElem? hv)
  rw [sc_tv g ads h1]
  exact hL.2.2 i v hv⟩
theorem sc_E {g : sm_G} {s xs : sm_Sh} {T T' : sc_t} {ads : Nat → Nat} (h3 : 3 ≤ s.length) (ho : ∀ b, b < s.length → T'.1 b = T.1 b) (h : sm_E g (s, T)) : sm_E (sc_g g s.length xs.length ads) (s ++ xs, T') := by
  obtain ⟨e1, e2, e3, e4, e5, e6⟩ := h
  refine ⟨?_, ?_, ?_, (ho 0 (by omega)).trans e4, (ho 1 (by omega)).trans e5, (ho 2 (by omega)).trans e6⟩
  · show (s ++ xs)[0]? = _
    rw [List.getElem?_append_left (by omega)]; exact e1
  · show (s ++ xs)[1]? = _
    rw [List.getElem?_append_left (by omega)]; exact e2
  · show (s ++ xs)[2]? = _
    rw [List.getElem?_append_left (by omega)]; exact e3
/-- a new cell's contents -/
def sc_z (T : sc_t) (a : Nat) : sc_t := (va_up T.1 a (fun _ => 0), va_up T.2.1 a (fun _ => 0), va_up T.2.2 a (fun _ => none))
theorem sc_z_o (T : sc_t) {a b : Nat} (h : b < a) : (sc_z T a).1 b = T.1 b ∧ (sc_z T a).2.1 b = T.2.1 b ∧ (sc_z T a).2.2 b = T.2.2 b := ⟨sm_up_o _ _ (by omega), sm_up_o _ _ (by omega), sm_up_o _ _ (by omega)⟩
theorem sc_z_wf {T : sc_t} {n a : Nat} (h : sc_wf n T) : sc_wf (n + 1) (sc_z T a) := fun x i b hb => by
  by_cases e : x = a
  · subst e
    simp [sc_z, sm_up_s] at hb
  · have : (sc_z T a).2.2 x i = T.2.2 x i := by show va_up T.2.2 a _ x i = _; rw [sm_up_o _ _ e]
    rw [this] at hb
    exact Nat.lt_succ_of_lt (h x i b hb)
def sc_tok (ty : FieldType) : Bool := match ty with
  | .int | .boolean | .long | .object _ | .array _ | .byte => true
  | _ => false
theorem sc_df (ty : FieldType) (h : sc_tok ty = true) : defaultValue ty = match sm_kd ty with
  | 0 => .int 0
  | 1 => .long 0
  | _ => .null := by cases ty <;> first | rfl | (simp [sc_tok] at h)

section
variable {ρ ρ2 : Type} {j : ρ → Option Value × sm_M} {k k2 : sm_K} {cs sl pc : Nat} {lf : List (Option Value)} {st : List Value} {s : sm_Sh} {T : sc_t} {o : Option ρ} {K : sc_t → Option ρ}
/-- the class of an array is known by its name -/
theorem sc_cA {g : sm_G} {U : State} {D : va_G} {ty : FieldType} {cA : ClassId} {tys : List (ClassId × FieldType)} (t0 : Nat) (ht : (sm_tys g)[t0]? = some (g.2.2.2.2.2 ty, ty)) (hK : va_K D sm_cl (sm_tys g) U) (hK2 : va_K D sm_cl (tys ++ [(cA, ty)]) U) : cA = g.2.2.2.2.2 ty := by
  have h1 := (hK.2 t0 _ ht).2
  have h2 := (hK2.2 tys.length (cA, ty) (by simp)).2
  cases ty with
  | object C =>
    obtain ⟨_, _, _, _, _, a1⟩ := h1
    obtain ⟨_, _, _, _, _, a2⟩ := h2
    exact Option.some.inj (a2.symm.trans a1)
  | _ => exact Option.some.inj (h2.symm.trans h1)
theorem sc_len1 {s : sm_Sh} {x : (FieldType × Nat) ⊕ Nat} : (s ++ ([x] : sm_Sh)).length = s.length + 1 := by simp
/-- one new cell: what is common -/
theorem sc_one {x : (FieldType × Nat) ⊕ Nat} {g g0 : sm_G} {p : Program} {l : Launch} {e : Env} {R : Room} {s2 : State} {m : MethodId} {args : Array Value} {below : List Frame} {meth : Method} {c : Code} {Q : State → Prop} {r : ρ} {n cs2 sl2 pc2 q : Nat} {H1 : Heap} {locs : List Loc} {ls : Array Slot} {E : va_E} (h3 : 3 ≤ s.length) (hw : sc_wf s.length T) (hv : sc_ok s.length lf st = true) (hk : k.2.2.2.2.2.1 ≠ 0) (h : ∀ T : sc_t, sc_wf (s ++ ([x] : sm_Sh)).length T → sm_S j k cs2 sl2 pc2 lf (.ref s.length :: st) (s ++ [x], T) (K T)) (hr : sm_n (sc_z T s.length) K = some r) (hC : sm_C k g p R s2 m args meth c) (hx : sm_ext k n g0 g) (hn : n ≤ s.length) (hQ : sm_Q k n g0 p l e R s2 m args below meth c Q (j r)) (hE0 : sm_E g (s, T)) (hL : sm_L g k.2.2.1 lf ls) (hS1 : va_S (sm_A g) s2.heap H1 locs)
    (hE : sm_ce (sc_g g s.length 1 (fun _ => q)) (s ++ [x], sc_z T s.length) s.length x = E) (hP1 : va_P g.2.2.2.2.1 sm_cl (sm_w g (s, T) ++ [(q, E)]) H1) (hD1 : va_D (sm_A g) (sm_w g (s, T) ++ [(q, E)])) : W p l e R s2 m args below meth c H1 locs cs2 sl2 Q (F0 m pc2 ls (.ref q :: st.map (sm_tv g))) := by
  obtain ⟨hv1, hv2⟩ := Bool.and_eq_true_iff.mp hv
  have hw1 := sc_z_wf (a := s.length) hw
  have hwe : sm_w (sc_g g s.length 1 (fun _ => q)) (s ++ [x], sc_z T s.length) = sm_w g (s, T) ++ [(q, E)] := by
    have h1 := sc_w (g := g) (xs := [x]) (T' := sc_z T s.length) (ads := fun _ => q) h3 hw (fun b hb => sc_z_o T hb)
    refine h1.trans ?_
    congr 1
    simp only [List.zipIdx_singleton, List.map_cons, List.map_nil, Nat.add_zero]
    rw [← hE]
    rfl
  rw [← hwe] at hP1 hD1
  have hR : sm_R (sc_g g s.length 1 (fun _ => q)) (s ++ [x], sc_z T s.length) H1 := ⟨sc_E (xs := [x]) h3 (fun b hb => (sc_z_o T hb).1) hE0, hP1, hD1⟩
  have hk2 := h (sc_z T s.length) (by rw [sc_len1]; exact hw1) r hr n g0 (sc_g g s.length 1 (fun _ => q)) p l e R s2 m args below meth c Q (sc_C _ h3 hC) (sc_ext _ hk hn hx) (by show n ≤ (s ++ ([x] : sm_Sh)).length; rw [sc_len1]; exact Nat.le_succ_of_le hn) hQ H1 locs ls hR hS1 (sc_L _ hv1 hL)
  rw [List.map_cons, sc_st g _ hv2] at hk2
  have hq : sm_tv (sc_g g s.length 1 (fun _ => q)) (.ref s.length) = .ref q := by
    show Value.ref _ = Value.ref _
    rw [show s.length = s.length + 0 from rfl, sc_g_in g _ (by omega : 0 < 1)]
  rw [hq] at hk2
  exact hk2
theorem sc_new (idx ci : Nat) (hci : ci < 8) (hto : ((List.range (sm_nf ci)).all fun i => sc_tok (sm_tf ci i)) = true) (hcl : Cond.classLink k.1.cls idx (sm_Rn ci) ∈ sm_tb) (hins : Cond.instantiable (sm_Rn ci) (sm_nf ci) ∈ sm_tb) (hini : Cond.initialized (sm_Rn ci) ∈ sm_tb) (h3 : 3 ≤ s.length) (hw : sc_wf s.length T) (hv : sc_ok s.length lf st = true) (hk : k.2.2.2.2.2.1 ≠ 0) (hmc : cs + 1 ≤ k.2.2.2.2.2.1) (hms : sl + sm_nf ci ≤ k.2.2.2.2.2.2) (hd : decode k.2.1 pc = .ok (.new idx, 3)) (h : ∀ T : sc_t, sc_wf (s ++ ([.inr ci] : sm_Sh)).length T → sm_S j k (cs + 1) (sl + sm_nf ci) (pc + 3) lf (.ref s.length :: st) (s ++ [.inr ci], T) (K T)) : sm_S j k cs sl pc lf st (s, T) (sm_n (sc_z T s.length) K) := by
  intro r hr n g0 g p l e R s2 m args below meth c Q hC hx hn hQ H locs ls hM hS hL
  have hts := hC.2.2.2.2.2.1
  have hA : ∀ q, s2.heap.size ≤ q → sm_A g q := fun q hq => Nat.le_trans hC.2.2.2.2.2.2.2.2.1 hq
  refine va_new (ci := ci) (fs := (List.range (sm_nf ci)).map (fun i => defaultValue (sm_tf ci i))) hC.1 hC.2.1 hts (sm_cl_in ci hci) (sm_tf ci) (sm_cl_ty ci hci) hC.2.2.2.2.1 (hts _ hcl) (hts _ hins) (hts _ hini) hC.2.2.2.2.2.2.2.2.2.1.1 hM.2.1 hM.2.2 hS hA (sm_cl_at ci hci) (fun i hi => by simp [vp_V, hi]) (Nat.le_trans hmc hC.2.2.2.2.2.2.2.2.2.2.2.2.1) (Nat.le_trans hms hC.2.2.2.2.2.2.2.2.2.2.2.2.2) hd (fun q H1 hP1 hD1 hS1 => ?_)
  refine sc_one (x := .inr ci) h3 hw hv hk h hr hC hx hn hQ hM.1 hL hS1 ?_ hP1 hD1
  simp only [sm_ce]
  congr 2
  apply List.map_congr_left
  intro i hi
  have hi2 : sc_tok (sm_tf ci i) = true := List.all_eq_true.mp hto i hi
  rw [sc_df _ hi2]
  simp only [sm_fv, sc_z, sm_up_s]
  generalize sm_kd (sm_tf ci i) = d
  match d with
  | 0 => rfl
  | 1 => rfl
  | d + 2 => rfl
theorem sc_newa {atype : ArrayType} {ty : FieldType} (t0 N : Nat) {z : Int32} (hty : newarray.typeOf atype = ty) (ht : ∀ g : sm_G, (sm_tys g)[t0]? = some (g.2.2.2.2.2 ty, ty)) (hk01 : ty = .int ∨ ty = .long ∨ ty = .boolean) (harr : Cond.arrayClass (newarray.typeOf atype) ∈ sm_tb) (hz : ¬ z < 0) (hzN : z.toNatClampNeg = N) (hby : N * componentBytes ty ≤ 536870912) (h3 : 3 ≤ s.length) (hw : sc_wf s.length T) (hv : sc_ok s.length lf st = true) (hk : k.2.2.2.2.2.1 ≠ 0) (hmc : cs + 1 ≤ k.2.2.2.2.2.1) (hms : sl + N ≤ k.2.2.2.2.2.2) (hd : decode k.2.1 pc = .ok (.newarray atype, 2)) (h : ∀ T : sc_t, sc_wf (s ++ ([.inl (ty, N)] : sm_Sh)).length T → sm_S j k (cs + 1) (sl + N) (pc + 2) lf (.ref s.length :: st) (s ++ [.inl (ty, N)], T) (K T)) : sm_S j k cs sl pc lf (.int z :: st) (s, T) (sm_n (sc_z T s.length) K) := by
  intro r hr n g0 g p l e R s2 m args below meth c Q hC hx hn hQ H locs ls hM hS hL
  have hts := hC.2.2.2.2.2.1
  have hA : ∀ q, s2.heap.size ≤ q → sm_A g q := fun q hq => Nat.le_trans hC.2.2.2.2.2.2.2.2.1 hq
  have hXK := hC.2.2.2.2.2.2.2.2.2.1.1
  refine va_newa (atype := atype) (ty := ty) (N' := N) (a0 := match sm_kd ty with | 0 => (N, .inl (fun _ => 0)) | 1 => (N, .inr (.inl (fun _ => 0))) | _ => (N, .inr (.inr (.inr (.inr (fun _ => none)))))) hC.1 hC.2.1 (hts _ harr) hty hXK hM.2.1 hM.2.2 hS hA (fun cA => by rcases hk01 with rfl | rfl | rfl <;> rfl) hz hzN hby (Nat.le_trans hmc hC.2.2.2.2.2.2.2.2.2.2.2.2.1) (Nat.le_trans hms hC.2.2.2.2.2.2.2.2.2.2.2.2.2) hd (fun q cA H1 hK1 hP1 hD1 hS1 => ?_)
  have hcA := sc_cA t0 (ht g) hXK hK1
  subst hcA
  refine sc_one (x := .inl (ty, N)) h3 hw hv hk h hr hC hx hn hQ hM.1 hL hS1 ?_ hP1 hD1
  rcases hk01 with rfl | rfl | rfl <;> simp only [sm_ce, sm_ar, sm_kd, sc_z, sm_up_s] <;> rfl
theorem sc_newq (t0 N : Nat) {z : Int32} (idx : Nat) (ht : ∀ g : sm_G, (sm_tys g)[t0]? = some (g.2.2.2.2.2 (.object "TwoFliers$Sign"), .object "TwoFliers$Sign")) (hcl : Cond.classLink k.1.cls idx "TwoFliers$Sign" ∈ sm_tb) (hz : ¬ z < 0) (hzN : z.toNatClampNeg = N) (hby : N * 4 ≤ 536870912) (h3 : 3 ≤ s.length) (hw : sc_wf s.length T) (hv : sc_ok s.length lf st = true) (hk : k.2.2.2.2.2.1 ≠ 0) (hmc : cs + 1 ≤ k.2.2.2.2.2.1) (hms : sl + N ≤ k.2.2.2.2.2.2) (hd : decode k.2.1 pc = .ok (.anewarray idx, 3)) (h : ∀ T : sc_t, sc_wf (s ++ ([.inl (.object "TwoFliers$Sign", N)] : sm_Sh)).length T → sm_S j k (cs + 1) (sl + N) (pc + 3) lf (.ref s.length :: st) (s ++ [.inl (.object "TwoFliers$Sign", N)], T) (K T)) : sm_S j k cs sl pc lf (.int z :: st) (s, T) (sm_n (sc_z T s.length) K) := by
  intro r hr n g0 g p l e R s2 m args below meth c Q hC hx hn hQ H locs ls hM hS hL
  have hts := hC.2.2.2.2.2.1
  have hA : ∀ q, s2.heap.size ≤ q → sm_A g q := fun q hq => Nat.le_trans hC.2.2.2.2.2.2.2.2.1 hq
  have hXK := hC.2.2.2.2.2.2.2.2.2.1.1
  refine va_newq (N' := N) hC.1 hC.2.1 hC.2.2.2.2.1 (hts _ hcl) hC.2.2.2.2.2.2.2.2.2.1.2.2.2.2.2.2.2.2.2.1 hXK hM.2.1 hM.2.2 hS hA hz hzN hby (Nat.le_trans hmc hC.2.2.2.2.2.2.2.2.2.2.2.2.1) (Nat.le_trans hms hC.2.2.2.2.2.2.2.2.2.2.2.2.2) hd (fun q cA H1 hK1 hP1 hD1 hS1 => ?_)
  have hcA := sc_cA t0 (ht g) hXK hK1
  subst hcA
  refine sc_one (x := .inl (.object "TwoFliers$Sign", N)) h3 hw hv hk h hr hC hx hn hQ hM.1 hL hS1 ?_ hP1 hD1
  simp only [sm_ce, sm_ar, sm_kd, sc_z, sm_up_s]
  rfl
end
