/-! ===== the three references that change; switches ===== -/
theorem sm_so {x lo hi : Int32} {l h : Int} (hl : lo.toInt = l) (hh : hi.toInt = h) (q : x < lo ∨ hi < x) : x.toInt < l ∨ h < x.toInt := by
  rcases q with q | q
  · exact Or.inl (hl ▸ Int32.lt_iff_toInt_lt.mp q)
  · exact Or.inr (hh ▸ Int32.lt_iff_toInt_lt.mp q)
section
variable {ρ : Type} {j : ρ → Option Value × sm_M} {k : sm_K} {cs sl pc N : Nat} {lf : List (Option Value)} {st : List Value} {S : sm_t}
theorem sd_pnw {idx b : Nat} {K : sm_t → Option ρ} (hf : sm_fl k.1.cls idx 1 6) (hd : decode k.2.1 pc = .ok (.putfield idx, 3)) (h : ∀ S : sm_t, sm_S j k cs sl (pc + 3) lf st (sm_m N S) (K S)) : sm_S j k cs sl pc lf (.ref b :: .ref 18 :: st) (sm_m N S) (sm_n ((S.1, S.2.1, b, S.2.2.2) : sm_t) K) :=
  sd_putR (S' := (S.1, S.2.1, b, S.2.2.2)) (ci := 1) (i := 6) rfl rfl (fun _ => ⟨rfl, rfl⟩) hf rfl rfl rfl (fun x hx => by funext z; simp [sm_m, sm_r0, hx]) (fun x hx => by
    match x, hx with
    | 0, _ => rfl
    | 1, _ => rfl
    | 2, _ => rfl
    | 3, _ => rfl
    | 4, _ => rfl
    | 5, _ => rfl
    | 6, _ => rfl
    | 7, _ => rfl
    | 8, _ => rfl) hd (h _)
theorem sd_pnx {idx b : Nat} {K : sm_t → Option ρ} (hf : sm_fl k.1.cls idx 1 7) (hd : decode k.2.1 pc = .ok (.putfield idx, 3)) (h : ∀ S : sm_t, sm_S j k cs sl (pc + 3) lf st (sm_m N S) (K S)) : sm_S j k cs sl pc lf (.ref b :: .ref 18 :: st) (sm_m N S) (sm_n ((S.1, S.2.1, S.2.2.1, b, S.2.2.2.2) : sm_t) K) :=
  sd_putR (S' := (S.1, S.2.1, S.2.2.1, b, S.2.2.2.2)) (ci := 1) (i := 7) rfl rfl (fun _ => ⟨rfl, rfl⟩) hf rfl rfl rfl (fun x hx => by funext z; simp [sm_m, sm_r0, hx]) (fun x hx => by
    match x, hx with
    | 0, _ => rfl
    | 1, _ => rfl
    | 2, _ => rfl
    | 3, _ => rfl
    | 4, _ => rfl
    | 5, _ => rfl
    | 6, _ => rfl
    | 7, _ => rfl
    | 8, _ => rfl) hd (h _)
theorem sd_ptx {idx b : Nat} {K : sm_t → Option ρ} (hf : sm_fl k.1.cls idx 3 0) (hd : decode k.2.1 pc = .ok (.putfield idx, 3)) (h : ∀ S : sm_t, sm_S j k cs sl (pc + 3) lf st (sm_m N S) (K S)) : sm_S j k cs sl pc lf (.ref b :: .ref 46 :: st) (sm_m N S) (sm_n ((S.1, S.2.1, S.2.2.1, S.2.2.2.1, some b) : sm_t) K) :=
  sd_putR (S' := (S.1, S.2.1, S.2.2.1, S.2.2.2.1, some b)) (ci := 3) (i := 0) rfl rfl (fun _ => ⟨rfl, rfl⟩) hf rfl rfl rfl (fun x hx => by funext z; simp [sm_m, sm_r0, hx]) (fun x hx => by
    match x, hx with
    | 0, _ => rfl
    | 1, _ => rfl
    | 2, _ => rfl
    | 3, _ => rfl
    | 4, _ => rfl
    | 5, _ => rfl) hd (h _)
end
/-! a word by its place in one of the tables -/
theorem sm_qq {w : Cond} (h : w ∈ tables_1) (hg : goodWord w = true) : w ∈ sm_tb := List.mem_filter.mpr ⟨List.mem_append_right _ h, hg⟩
theorem sm_q1 (i : Nat) {w : Cond} (h : tables_1_1[i]? = some w) (hg : goodWord w = true) : w ∈ sm_tb := sm_qq (List.mem_append_left _ (List.mem_of_getElem? h)) hg
theorem sm_q2 (i : Nat) {w : Cond} (h : tables_1_2[i]? = some w) (hg : goodWord w = true) : w ∈ sm_tb := sm_qq (List.mem_append_right _ (List.mem_append_left _ (List.mem_of_getElem? h))) hg
theorem sm_q3 (i : Nat) {w : Cond} (h : tables_1_3[i]? = some w) (hg : goodWord w = true) : w ∈ sm_tb := sm_qq (List.mem_append_right _ (List.mem_append_right _ (List.mem_append_left _ (List.mem_of_getElem? h)))) hg
theorem sm_q4 (i : Nat) {w : Cond} (h : tables_1_4[i]? = some w) (hg : goodWord w = true) : w ∈ sm_tb := sm_qq (List.mem_append_right _ (List.mem_append_right _ (List.mem_append_right _ (List.mem_append_left _ (List.mem_of_getElem? h))))) hg
theorem sm_q5 (i : Nat) {w : Cond} (h : tables_1_5[i]? = some w) (hg : goodWord w = true) : w ∈ sm_tb := sm_qq (List.mem_append_right _ (List.mem_append_right _ (List.mem_append_right _ (List.mem_append_right _ (List.mem_append_left _ (List.mem_of_getElem? h)))))) hg
theorem sm_q6 (i : Nat) {w : Cond} (h : tables_1_6[i]? = some w) (hg : goodWord w = true) : w ∈ sm_tb := sm_qq (List.mem_append_right _ (List.mem_append_right _ (List.mem_append_right _ (List.mem_append_right _ (List.mem_append_right _ (List.mem_of_getElem? h)))))) hg
