/-! ===== the made system is the one whose methods were walked ===== -/
def sc_rok (T : sc_t) : Bool := (List.range 70).all (fun a => match sm_sq a with
  | some (.inl q) => if sm_kd q.1 = 2 then (List.range q.2).all (fun i => decide (T.2.2 a i = sm_r0 42 43 none a i)) else true
  | some (.inr ci) => (List.range (sm_nf ci)).all (fun i => if sm_kd (sm_tf ci i) = 2 then decide (T.2.2 a i = sm_r0 42 43 none a i) else true)
  | none => true)
theorem sc_arrV (c : ClassId) (n : Nat) {f f' : Nat → Value} (h : ∀ i, i < n → f i = f' i) : arrV c n f = arrV c n f' := by
  unfold arrV
  congr 2
  funext i
  exact h i.val i.isLt
theorem sc_at69 {n a : Nat} {T : sc_t} {x : (FieldType × Nat) ⊕ Nat} (h : sc_rok T = true) (h3 : 3 ≤ a) (hx : (sm_s0 n)[a]? = some x) : match x with
  | .inl q => sm_kd q.1 = 2 → ∀ i, i < q.2 → T.2.2 a i = sm_r0 42 43 none a i
  | .inr ci => ∀ i, i < sm_nf ci → sm_kd (sm_tf ci i) = 2 → T.2.2 a i = sm_r0 42 43 none a i := by
  have hl : a < 70 := (List.getElem?_eq_some_iff.mp hx).1
  have hq : sm_sq a = some x := by
    unfold sm_sq
    rw [if_neg (by omega)]
    obtain ⟨b, rfl⟩ : ∃ b, a = b + 3 := ⟨a - 3, by omega⟩
    exact hx
  have h1 := List.all_eq_true.mp h a (List.mem_range.mpr hl)
  rw [hq] at h1
  cases x with
  | inl q =>
    intro hk i hi
    dsimp only at h1
    rw [if_pos hk] at h1
    exact of_decide_eq_true (List.all_eq_true.mp h1 i (List.mem_range.mpr hi))
  | inr ci =>
    intro i hi hk
    have h2 := List.all_eq_true.mp h1 i (List.mem_range.mpr hi)
    rw [if_pos hk] at h2
    exact of_decide_eq_true h2
theorem sd_rep {ρ : Type} {j : ρ → Option Value × sm_M} {k : sm_K} {cs sl pc n : Nat} {lf : List (Option Value)} {st : List Value} {T : sc_t} {o : Option ρ} (hc : sc_rok T = true) (h : sm_S j k cs sl pc lf st (sm_m n (T.1, T.2.1, 42, 43, none)) o) : sm_S j k cs sl pc lf st (sc_sh n 70, T) o := by
  intro r hr nn g0 g p l e R s m args below meth c Q hC hx hn hQ H locs ls hM hS hL
  have hs : sc_sh n 70 = sm_s0 n := rfl
  obtain ⟨hE, hP, hD⟩ := hM
  refine h r hr nn g0 g p l e R s m args below meth c Q hC hx hn hQ H locs ls ⟨hE, ?_, ?_⟩ hS hL
  · intro i q hq
    rw [sm_w_get] at hq
    cases e1 : (sm_s0 n)[i + 3]? with
    | none =>
      have e2 : (sm_m n (T.1, T.2.1, 42, 43, none)).1[i + 3]? = none := e1
      rw [e2] at hq
      cases hq
    | some x =>
      have e2 : (sm_m n (T.1, T.2.1, 42, 43, none)).1[i + 3]? = some x := e1
      rw [e2] at hq
      cases hq
      have h1 := hP i (g.1 (i + 3), sm_ce g (sc_sh n 70, T) (i + 3) x) (by rw [sm_w_get]; show Option.map _ ((sc_sh n 70)[i + 3]?) = _; rw [hs, e1]; rfl)
      have h2 := sc_at69 (n := n) hc (by omega : 3 ≤ i + 3) e1
      cases x with
      | inl q =>
        obtain ⟨ty, w⟩ := q
        show H[g.1 (i + 3)]? = some (vp_cell _ _)
        have h3 : H[g.1 (i + 3)]? = some (vp_cell (g.2.2.2.2.2 ty) (sm_ar g (sc_sh n 70, T) (i + 3) ty w)) := h1
        rw [h3]
        congr 1
        by_cases hk : sm_kd ty = 2
        · have h4 := h2 hk
          have hL1 : sm_ar g (sc_sh n 70, T) (i + 3) ty w = (w, .inr (.inr (.inr (.inr (fun z => (T.2.2 (i + 3) z).map g.1))))) := by simp only [sm_ar, hk]
          have hL2 : sm_ar g (sm_m n (T.1, T.2.1, 42, 43, none)) (i + 3) ty w = (w, .inr (.inr (.inr (.inr (fun z => (sm_r0 42 43 none (i + 3) z).map g.1))))) := by
            simp only [sm_ar, hk]
            rfl
          show vp_cell _ (sm_ar g (sc_sh n 70, T) (i + 3) ty w) = vp_cell (g.2.2.2.2.2 ty) (sm_ar g (sm_m n (T.1, T.2.1, 42, 43, none)) (i + 3) ty w)
          rw [hL1, hL2, vp_cell_q, vp_cell_q]
          refine sc_arrV _ _ (fun z hz => ?_)
          have h5 := h4 z hz
          show va_rf ((T.2.2 (i + 3) z).map g.1) = va_rf ((sm_r0 42 43 none (i + 3) z).map g.1)
          rw [h5]
        · show vp_cell _ (sm_ar g (sc_sh n 70, T) (i + 3) ty w) = vp_cell _ (sm_ar g (sm_m n (T.1, T.2.1, 42, 43, none)) (i + 3) ty w)
          have h6 : sm_kd ty = 0 ∨ sm_kd ty = 1 ∨ sm_kd ty = 2 := by cases ty <;> simp [sm_kd]
          rcases h6 with h6 | h6 | h6
          · unfold sm_ar; rw [h6]; rfl
          · unfold sm_ar; rw [h6]; rfl
          · exact absurd h6 hk
      | inr ci =>
        obtain ⟨w, hw1, hw2⟩ := h1
        refine ⟨w, hw1, ?_⟩
        have h7 : (List.range (sm_nf ci)).map (sm_fv g (sm_m n (T.1, T.2.1, 42, 43, none)) (i + 3) ci) = (List.range (sm_nf ci)).map (sm_fv g (sc_sh n 70, T) (i + 3) ci) := by
          apply List.map_congr_left
          intro z hz
          have h6 : sm_kd (sm_tf ci z) = 0 ∨ sm_kd (sm_tf ci z) = 1 ∨ sm_kd (sm_tf ci z) = 2 := by
            cases sm_tf ci z <;> simp [sm_kd]
          rcases h6 with h6 | h6 | h6
          · simp only [sm_fv, h6]; rfl
          · simp only [sm_fv, h6]; rfl
          · have h8 := h2 z (List.mem_range.mp hz) h6
            simp only [sm_fv, h6]
            show va_rf ((sm_r0 42 43 none (i + 3) z).map g.1) = va_rf ((T.2.2 (i + 3) z).map g.1)
            rw [h8]
        show t_OB _ _ _ _ H (vp_V ((List.range (sm_nf ci)).map (sm_fv g (sm_m n (T.1, T.2.1, 42, 43, none)) (i + 3) ci)))
        rw [h7]
        exact hw2
  · have key : ∀ (i : Nat) (q : Nat × va_E), (sm_w g (sm_m n (T.1, T.2.1, 42, 43, none)))[i]? = some q → ∃ q', (sm_w g (sc_sh n 70, T))[i]? = some q' ∧ q'.1 = q.1 := fun i q hq => by
      rw [sm_w_get] at hq
      cases e1 : (sm_s0 n)[i + 3]? with
      | none =>
        have e2 : (sm_m n (T.1, T.2.1, 42, 43, none)).1[i + 3]? = none := e1
        rw [e2] at hq
        cases hq
      | some x =>
        have e2 : (sm_m n (T.1, T.2.1, 42, 43, none)).1[i + 3]? = some x := e1
        rw [e2] at hq
        cases hq
        exact ⟨(g.1 (i + 3), sm_ce g (sc_sh n 70, T) (i + 3) x), by rw [sm_w_get]; show Option.map _ ((sc_sh n 70)[i + 3]?) = _; rw [hs, e1]; rfl, rfl⟩
    refine ⟨fun i i2 x y hi hi2 hxy => ?_, fun i q hq => ?_⟩
    · obtain ⟨x', a1, a2⟩ := key i x hi
      obtain ⟨y', b1, b2⟩ := key i2 y hi2
      exact hD.1 i i2 x' y' a1 b1 (a2.trans (hxy.trans b2.symm))
    · obtain ⟨q', a1, a2⟩ := key i q hq
      rw [← a2]
      exact hD.2 i q' a1
/-- the law from its first instruction -/
def cL_law (F n : Nat) (T : sc_t) : Option (Int32 × sm_t) :=
  sm_n (sc_z T 3) fun T =>
  (c7_init T).bind fun T =>
  sm_n (sc_z T 52) fun T =>
  (c8_init T).bind fun T =>
  if sc_rok T = true then xL_law_18 F n F 0 (T.1, T.2.1, 42, 43, none) else none
set_option maxHeartbeats 4000000 in
set_option maxRecDepth 20000 in
theorem sL_start (n F : Nat) (T : sc_t) (hT : sc_wf 3 T) : sm_S (sm_jI n) kL_law 0 0 0 [some (.ref 2), none, none, none] [] (sc_sh n 3, T) (cL_law F n T) := by
  unfold cL_law
  refine sc_new (pc := 0) 7 6 (by decide) (by decide) cxL_7 ci7.1 ci7.2 (Nat.le_of_ble_eq_true rfl) hT rfl (by decide) (Nat.le_of_ble_eq_true rfl) (Nat.le_of_ble_eq_true rfl) dL_law_0 (fun T (hT : sc_wf 4 T) => ?_)
  refine sd_cast (M' := (sc_sh n 4, T)) (st' := [.ref 3]) (cs' := 1) (sl' := 16) rfl rfl rfl rfl ?_
  refine sd_dup (pc := 3) dL_law_3 rfl ?_
  refine sc_cI (pc := 4) (b := 3) (k2 := k7_init) (s2 := sc_sh n 52) 9 dL_law_4 mlL_9 mi7_init rfl me7_init rfl ⟨(Nat.le_of_ble_eq_true rfl), (Nat.le_of_ble_eq_true rfl)⟩ (Nat.le_of_ble_eq_true rfl) (Nat.le_of_ble_eq_true rfl) (by decide) (Nat.le_of_ble_eq_true rfl) (Nat.le_of_ble_eq_true rfl) (Nat.le_of_ble_eq_true rfl) (Nat.le_of_ble_eq_true rfl) rfl (s7_init n T hT) (w7_init T hT) (fun T (hT : sc_wf 52 T) => ?_)
  refine sd_cast (M' := (sc_sh n 52, T)) (st' := [.ref 3]) (cs' := 49) (sl' := 1695) rfl rfl rfl rfl ?_
  refine sd_astore_n (lf2 := [some (.ref 2), some (.ref 3), none, none]) (pc := 7) dL_law_7 (Nat.le_of_ble_eq_true rfl) rfl ?_
  refine sc_new (pc := 8) 10 7 (by decide) (by decide) cxL_10 ci8.1 ci8.2 (Nat.le_of_ble_eq_true rfl) hT rfl (by decide) (Nat.le_of_ble_eq_true rfl) (Nat.le_of_ble_eq_true rfl) dL_law_8 (fun T (hT : sc_wf 53 T) => ?_)
  refine sd_cast (M' := (sc_sh n 53, T)) (st' := [.ref 52]) (cs' := 50) (sl' := 1725) rfl rfl rfl rfl ?_
  refine sd_dup (pc := 11) dL_law_11 rfl ?_
  refine sc_cI (pc := 12) (b := 52) (k2 := k8_init) (s2 := sc_sh n 70) 12 dL_law_12 mlL_12 mi8_init rfl me8_init rfl ⟨(Nat.le_of_ble_eq_true rfl), (Nat.le_of_ble_eq_true rfl)⟩ (Nat.le_of_ble_eq_true rfl) (Nat.le_of_ble_eq_true rfl) (by decide) (Nat.le_of_ble_eq_true rfl) (Nat.le_of_ble_eq_true rfl) (Nat.le_of_ble_eq_true rfl) (Nat.le_of_ble_eq_true rfl) rfl (s8_init n T hT) (w8_init T hT) (fun T (hT : sc_wf 70 T) => ?_)
  refine sd_cast (M' := (sc_sh n 70, T)) (st' := [.ref 52]) (cs' := 67) (sl' := 4836) rfl rfl rfl rfl ?_
  refine sd_astore_n (lf2 := [some (.ref 2), some (.ref 3), some (.ref 52), none]) (pc := 15) dL_law_15 (Nat.le_of_ble_eq_true rfl) rfl ?_
  refine sd_iconst (pc := 16) 0 dL_law_16 (by decide) ?_
  refine sd_istore_n (lf2 := [some (.ref 2), some (.ref 3), some (.ref 52), some (.int 0)]) (pc := 17) dL_law_17 (Nat.le_of_ble_eq_true rfl) rfl ?_
  refine sd_ite (fun hc => ?_) (fun _ => sd_none)
  exact sd_rep hc (sL_law_18 F F 0 (T.1, T.2.1, 42, 43, none))
