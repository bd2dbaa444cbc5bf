/-! ===== returns; calls by what they answer; static arrays; System.arraycopy; Math ===== -/
section
variable {ρ : Type} {j : ρ → Option Value × sm_M} {k k2 : sm_K} {cs sl pc N : Nat} {lf : List (Option Value)} {st As rest : List Value} {S : sm_t} {M : sm_M} {o : Option ρ}
theorem sd_iret {v : Int32} (hd : decode k.2.1 pc = .ok (.ireturn, 1)) (hk : k.2.2.2.1 = some .int) (hcs : cs ≤ k.2.2.2.2.2.1) (hsl : sl ≤ k.2.2.2.2.2.2) : sm_S (sm_jI N) k cs sl pc lf [.int v] (sm_m N S) (some (v, S)) := by
  intro r hr nn g0 g p l e R s m args below meth c Q hC hx hn hQ H locs ls hM hS hL
  cases hr
  exact hQ g H locs ls pc cs sl hx hM (sm_A_eq hx.2.1 ▸ hS) hcs hsl hd (fun _ _ hb => absurd (hk.symm.trans hb) (by decide))
theorem sd_zret {v : Int32} (hd : decode k.2.1 pc = .ok (.ireturn, 1)) (hv : v = 0 ∨ v = 1) (hcs : cs ≤ k.2.2.2.2.2.1) (hsl : sl ≤ k.2.2.2.2.2.2) : sm_S (sm_jI N) k cs sl pc lf [.int v] (sm_m N S) (some (v, S)) := by
  intro r hr nn g0 g p l e R s m args below meth c Q hC hx hn hQ H locs ls hM hS hL
  cases hr
  exact hQ g H locs ls pc cs sl hx hM (sm_A_eq hx.2.1 ▸ hS) hcs hsl hd (fun u hu _ => by cases hu; exact hv)
theorem sd_lret {v : Int64} (hd : decode k.2.1 pc = .ok (.lreturn, 1))  (hcs : cs ≤ k.2.2.2.2.2.1) (hsl : sl ≤ k.2.2.2.2.2.2) : sm_S (sm_jL N) k cs sl pc lf [.long v] (sm_m N S) (some (v, S)) := by
  intro r hr nn g0 g p l e R s m args below meth c Q hC hx hn hQ H locs ls hM hS hL
  cases hr
  exact hQ g H locs ls pc cs sl hx hM (sm_A_eq hx.2.1 ▸ hS) hcs hsl hd (fun _ hu => by cases hu)
theorem sd_vret (hd : decode k.2.1 pc = .ok (.return_, 1)) (hcs : cs ≤ k.2.2.2.2.2.1) (hsl : sl ≤ k.2.2.2.2.2.2) : sm_S (sm_jV N) k cs sl pc lf [] (sm_m N S) (some S) := by
  intro r hr nn g0 g p l e R s m args below meth c Q hC hx hn hQ H locs ls hM hS hL
  cases hr
  exact hQ g H locs ls pc cs sl hx hM (sm_A_eq hx.2.1 ▸ hS) hcs hsl hd (fun _ hu => by cases hu)
def sm_rz (v : Int32) (S : sm_t) : Option (Int32 × sm_t) := if v = 0 ∨ v = 1 then some (v, S) else none
theorem sd_zrv {v : Int32} (hd : decode k.2.1 pc = .ok (.ireturn, 1)) (hcs : cs ≤ k.2.2.2.2.2.1) (hsl : sl ≤ k.2.2.2.2.2.2) : sm_S (sm_jI N) k cs sl pc lf [.int v] (sm_m N S) (sm_rz v S) := by
  unfold sm_rz
  by_cases q : v = 0 ∨ v = 1
  · rw [if_pos q]
    exact sd_zret hd q hcs hsl
  · rw [if_neg q]
    exact sd_none
def sm_cI {ρ : Type} (o : Option (Int32 × sm_t)) (K : Int32 → sm_t → Option ρ) : Option ρ := o.bind fun q => K q.1 q.2
def sm_cL {ρ : Type} (o : Option (Int64 × sm_t)) (K : Int64 → sm_t → Option ρ) : Option ρ := o.bind fun q => K q.1 q.2
def sm_cV {ρ : Type} (o : Option sm_t) (K : sm_t → Option ρ) : Option ρ := o.bind K
theorem sd_cSI {o2 : Option (Int32 × sm_t)} {K : Int32 → sm_t → Option ρ} (idx : Nat) (hd : decode k.2.1 pc = .ok (.invokestatic idx, 3)) (hl : Cond.methodLink k.1.cls idx k2.1 ∈ sm_tb) (hstt : Cond.static k2.1 ∈ sm_tb) (hme : sm_me k2 As.length) (hz : k2.2.2.2.2.2.1 = 0 ∧ k2.2.2.2.2.2.2 = 0) (hfr : k2.2.2.2.2.1 + 1 ≤ k.2.2.2.2.1 ∧ k2.2.2.1 ≤ 45) (hrs : (rest.map fun v => v.category).sum ≤ 8) (hen : (As.flatMap (fun v => if v.category = 2 then [some v, none] else [some v])).length ≤ k2.2.2.1) (hro : k2.2.2.2.1 = some .int ∨ k2.2.2.2.1 = some .boolean) (hcs : cs ≤ k.2.2.2.2.2.1) (hsl : sl ≤ k.2.2.2.2.2.2) (hst : st = As.reverse ++ rest) (hp : sm_P (sm_jI N) k2 As (sm_m N S) o2) (h : ∀ (v : Int32) (S : sm_t), sm_S j k cs sl (pc + 3) lf (.int v :: rest) (sm_m N S) (K v S)) : sm_S j k cs sl pc lf st (sm_m N S) (sm_cI o2 K) :=
  sd_cS (j2 := sm_jI N) idx hd hl hstt hme hz hfr hrs hen (fun _ => hro) (fun _ _ => rfl) (fun _ => rfl) hcs hsl hst hp (fun q _ => h q.1 q.2)
theorem sd_cSL {o2 : Option (Int64 × sm_t)} {K : Int64 → sm_t → Option ρ} (idx : Nat) (hd : decode k.2.1 pc = .ok (.invokestatic idx, 3)) (hl : Cond.methodLink k.1.cls idx k2.1 ∈ sm_tb) (hstt : Cond.static k2.1 ∈ sm_tb) (hme : sm_me k2 As.length) (hz : k2.2.2.2.2.2.1 = 0 ∧ k2.2.2.2.2.2.2 = 0) (hfr : k2.2.2.2.2.1 + 1 ≤ k.2.2.2.2.1 ∧ k2.2.2.1 ≤ 45) (hrs : (rest.map fun v => v.category).sum ≤ 8) (hen : (As.flatMap (fun v => if v.category = 2 then [some v, none] else [some v])).length ≤ k2.2.2.1) (hro : k2.2.2.2.1 = some .long) (hcs : cs ≤ k.2.2.2.2.2.1) (hsl : sl ≤ k.2.2.2.2.2.2) (hst : st = As.reverse ++ rest) (hp : sm_P (sm_jL N) k2 As (sm_m N S) o2) (h : ∀ (v : Int64) (S : sm_t), sm_S j k cs sl (pc + 3) lf (.long v :: rest) (sm_m N S) (K v S)) : sm_S j k cs sl pc lf st (sm_m N S) (sm_cL o2 K) :=
  sd_cS (j2 := sm_jL N) idx hd hl hstt hme hz hfr hrs hen (fun _ => hro) (fun _ _ => rfl) (fun _ => rfl) hcs hsl hst hp (fun q _ => h q.1 q.2)
theorem sd_cSV {o2 : Option (sm_t)} {K : sm_t → Option ρ} (idx : Nat) (hd : decode k.2.1 pc = .ok (.invokestatic idx, 3)) (hl : Cond.methodLink k.1.cls idx k2.1 ∈ sm_tb) (hstt : Cond.static k2.1 ∈ sm_tb) (hme : sm_me k2 As.length) (hz : k2.2.2.2.2.2.1 = 0 ∧ k2.2.2.2.2.2.2 = 0) (hfr : k2.2.2.2.2.1 + 1 ≤ k.2.2.2.2.1 ∧ k2.2.2.1 ≤ 45) (hrs : (rest.map fun v => v.category).sum ≤ 8) (hen : (As.flatMap (fun v => if v.category = 2 then [some v, none] else [some v])).length ≤ k2.2.2.1) (hro : k2.2.2.2.1 = none) (hcs : cs ≤ k.2.2.2.2.2.1) (hsl : sl ≤ k.2.2.2.2.2.2) (hst : st = As.reverse ++ rest) (hp : sm_P (sm_jV N) k2 As (sm_m N S) o2) (h : ∀ (S : sm_t), sm_S j k cs sl (pc + 3) lf rest (sm_m N S) (K S)) : sm_S j k cs sl pc lf st (sm_m N S) (sm_cV o2 K) :=
  sd_cS (j2 := sm_jV N) idx hd hl hstt hme hz hfr hrs hen (fun _ => hro) (fun _ _ => rfl) (fun _ => rfl) hcs hsl hst hp (fun q _ => h q)
theorem sd_cNI {o2 : Option (Int32 × sm_t)} {K : Int32 → sm_t → Option ρ} (idx : Nat) (host : String) (hd : decode k.2.1 pc = .ok (.invokestatic idx, 3)) (hl : (k.1.cls, idx, k2.1, host) ∈ sm_nl) (hstt : Cond.static k2.1 ∈ sm_tb) (hme : sm_me k2 As.length) (hz : k2.2.2.2.2.2.1 = 0 ∧ k2.2.2.2.2.2.2 = 0) (hfr : k2.2.2.2.2.1 + 1 ≤ k.2.2.2.2.1 ∧ k2.2.2.1 ≤ 45) (hrs : (rest.map fun v => v.category).sum ≤ 8) (hen : (As.flatMap (fun v => if v.category = 2 then [some v, none] else [some v])).length ≤ k2.2.2.1) (hro : k2.2.2.2.1 = some .int ∨ k2.2.2.2.1 = some .boolean) (hcs : cs ≤ k.2.2.2.2.2.1) (hsl : sl ≤ k.2.2.2.2.2.2) (hst : st = As.reverse ++ rest) (hp : sm_P (sm_jI N) k2 As (sm_m N S) o2) (h : ∀ (v : Int32) (S : sm_t), sm_S j k cs sl (pc + 3) lf (.int v :: rest) (sm_m N S) (K v S)) : sm_S j k cs sl pc lf st (sm_m N S) (sm_cI o2 K) :=
  sd_cN (j2 := sm_jI N) idx host hd hl hstt hme hz hfr hrs hen (fun _ => hro) (fun _ _ => rfl) (fun _ => rfl) hcs hsl hst hp (fun q _ => h q.1 q.2)
theorem sd_cNL {o2 : Option (Int64 × sm_t)} {K : Int64 → sm_t → Option ρ} (idx : Nat) (host : String) (hd : decode k.2.1 pc = .ok (.invokestatic idx, 3)) (hl : (k.1.cls, idx, k2.1, host) ∈ sm_nl) (hstt : Cond.static k2.1 ∈ sm_tb) (hme : sm_me k2 As.length) (hz : k2.2.2.2.2.2.1 = 0 ∧ k2.2.2.2.2.2.2 = 0) (hfr : k2.2.2.2.2.1 + 1 ≤ k.2.2.2.2.1 ∧ k2.2.2.1 ≤ 45) (hrs : (rest.map fun v => v.category).sum ≤ 8) (hen : (As.flatMap (fun v => if v.category = 2 then [some v, none] else [some v])).length ≤ k2.2.2.1) (hro : k2.2.2.2.1 = some .long) (hcs : cs ≤ k.2.2.2.2.2.1) (hsl : sl ≤ k.2.2.2.2.2.2) (hst : st = As.reverse ++ rest) (hp : sm_P (sm_jL N) k2 As (sm_m N S) o2) (h : ∀ (v : Int64) (S : sm_t), sm_S j k cs sl (pc + 3) lf (.long v :: rest) (sm_m N S) (K v S)) : sm_S j k cs sl pc lf st (sm_m N S) (sm_cL o2 K) :=
  sd_cN (j2 := sm_jL N) idx host hd hl hstt hme hz hfr hrs hen (fun _ => hro) (fun _ _ => rfl) (fun _ => rfl) hcs hsl hst hp (fun q _ => h q.1 q.2)
theorem sd_cNV {o2 : Option (sm_t)} {K : sm_t → Option ρ} (idx : Nat) (host : String) (hd : decode k.2.1 pc = .ok (.invokestatic idx, 3)) (hl : (k.1.cls, idx, k2.1, host) ∈ sm_nl) (hstt : Cond.static k2.1 ∈ sm_tb) (hme : sm_me k2 As.length) (hz : k2.2.2.2.2.2.1 = 0 ∧ k2.2.2.2.2.2.2 = 0) (hfr : k2.2.2.2.2.1 + 1 ≤ k.2.2.2.2.1 ∧ k2.2.2.1 ≤ 45) (hrs : (rest.map fun v => v.category).sum ≤ 8) (hen : (As.flatMap (fun v => if v.category = 2 then [some v, none] else [some v])).length ≤ k2.2.2.1) (hro : k2.2.2.2.1 = none) (hcs : cs ≤ k.2.2.2.2.2.1) (hsl : sl ≤ k.2.2.2.2.2.2) (hst : st = As.reverse ++ rest) (hp : sm_P (sm_jV N) k2 As (sm_m N S) o2) (h : ∀ (S : sm_t), sm_S j k cs sl (pc + 3) lf rest (sm_m N S) (K S)) : sm_S j k cs sl pc lf st (sm_m N S) (sm_cV o2 K) :=
  sd_cN (j2 := sm_jV N) idx host hd hl hstt hme hz hfr hrs hen (fun _ => hro) (fun _ _ => rfl) (fun _ => rfl) hcs hsl hst hp (fun q _ => h q)
theorem sd_cVI {o2 : Option (Int32 × sm_t)} {K : Int32 → sm_t → Option ρ} {b ci : Nat} (idx : Nat) (hb : sm_sq b = some (.inr ci)) (hci : ci < 8) (hcl : k2.1.cls = sm_Rn ci) (hd : decode k.2.1 pc = .ok (.invokevirtual idx, 3)) (hl : Cond.methodLink k.1.cls idx k2.1 ∈ sm_tb) (hins : Cond.instanceMethod k2.1 ∈ sm_tb) (hsel : Cond.selects k2.1.cls k2.1 k2.1 ∈ sm_tb) (hme : sm_me k2 As.length) (hz : k2.2.2.2.2.2.1 = 0 ∧ k2.2.2.2.2.2.2 = 0) (hfr : k2.2.2.2.2.1 + 1 ≤ k.2.2.2.2.1 ∧ k2.2.2.1 ≤ 45) (hrs : (rest.map fun v => v.category).sum ≤ 8) (hen : ((.ref b :: As : List Value).flatMap (fun v => if v.category = 2 then [some v, none] else [some v])).length ≤ k2.2.2.1) (hro : k2.2.2.2.1 = some .int ∨ k2.2.2.2.1 = some .boolean) (hcs : cs ≤ k.2.2.2.2.2.1) (hsl : sl ≤ k.2.2.2.2.2.2) (hst : st = As.reverse ++ .ref b :: rest) (hp : sm_P (sm_jI N) k2 (.ref b :: As : List Value) (sm_m N S) o2) (h : ∀ (v : Int32) (S : sm_t), sm_S j k cs sl (pc + 3) lf (.int v :: rest) (sm_m N S) (K v S)) : sm_S j k cs sl pc lf st (sm_m N S) (sm_cI o2 K) :=
  sd_cV (j2 := sm_jI N) idx (sm_sq_at (n := N) (S := S) hb).1 (sm_sq_at hb).2 hci hcl hd hl hins hsel hme hz hfr hrs hen (fun _ => hro) (fun _ _ => rfl) (fun _ => rfl) hcs hsl hst hp (fun q _ => h q.1 q.2)
theorem sd_cVL {o2 : Option (Int64 × sm_t)} {K : Int64 → sm_t → Option ρ} {b ci : Nat} (idx : Nat) (hb : sm_sq b = some (.inr ci)) (hci : ci < 8) (hcl : k2.1.cls = sm_Rn ci) (hd : decode k.2.1 pc = .ok (.invokevirtual idx, 3)) (hl : Cond.methodLink k.1.cls idx k2.1 ∈ sm_tb) (hins : Cond.instanceMethod k2.1 ∈ sm_tb) (hsel : Cond.selects k2.1.cls k2.1 k2.1 ∈ sm_tb) (hme : sm_me k2 As.length) (hz : k2.2.2.2.2.2.1 = 0 ∧ k2.2.2.2.2.2.2 = 0) (hfr : k2.2.2.2.2.1 + 1 ≤ k.2.2.2.2.1 ∧ k2.2.2.1 ≤ 45) (hrs : (rest.map fun v => v.category).sum ≤ 8) (hen : ((.ref b :: As : List Value).flatMap (fun v => if v.category = 2 then [some v, none] else [some v])).length ≤ k2.2.2.1) (hro : k2.2.2.2.1 = some .long) (hcs : cs ≤ k.2.2.2.2.2.1) (hsl : sl ≤ k.2.2.2.2.2.2) (hst : st = As.reverse ++ .ref b :: rest) (hp : sm_P (sm_jL N) k2 (.ref b :: As : List Value) (sm_m N S) o2) (h : ∀ (v : Int64) (S : sm_t), sm_S j k cs sl (pc + 3) lf (.long v :: rest) (sm_m N S) (K v S)) : sm_S j k cs sl pc lf st (sm_m N S) (sm_cL o2 K) :=
  sd_cV (j2 := sm_jL N) idx (sm_sq_at (n := N) (S := S) hb).1 (sm_sq_at hb).2 hci hcl hd hl hins hsel hme hz hfr hrs hen (fun _ => hro) (fun _ _ => rfl) (fun _ => rfl) hcs hsl hst hp (fun q _ => h q.1 q.2)
theorem sd_cVV {o2 : Option (sm_t)} {K : sm_t → Option ρ} {b ci : Nat} (idx : Nat) (hb : sm_sq b = some (.inr ci)) (hci : ci < 8) (hcl : k2.1.cls = sm_Rn ci) (hd : decode k.2.1 pc = .ok (.invokevirtual idx, 3)) (hl : Cond.methodLink k.1.cls idx k2.1 ∈ sm_tb) (hins : Cond.instanceMethod k2.1 ∈ sm_tb) (hsel : Cond.selects k2.1.cls k2.1 k2.1 ∈ sm_tb) (hme : sm_me k2 As.length) (hz : k2.2.2.2.2.2.1 = 0 ∧ k2.2.2.2.2.2.2 = 0) (hfr : k2.2.2.2.2.1 + 1 ≤ k.2.2.2.2.1 ∧ k2.2.2.1 ≤ 45) (hrs : (rest.map fun v => v.category).sum ≤ 8) (hen : ((.ref b :: As : List Value).flatMap (fun v => if v.category = 2 then [some v, none] else [some v])).length ≤ k2.2.2.1) (hro : k2.2.2.2.1 = none) (hcs : cs ≤ k.2.2.2.2.2.1) (hsl : sl ≤ k.2.2.2.2.2.2) (hst : st = As.reverse ++ .ref b :: rest) (hp : sm_P (sm_jV N) k2 (.ref b :: As : List Value) (sm_m N S) o2) (h : ∀ (S : sm_t), sm_S j k cs sl (pc + 3) lf rest (sm_m N S) (K S)) : sm_S j k cs sl pc lf st (sm_m N S) (sm_cV o2 K) :=
  sd_cV (j2 := sm_jV N) idx (sm_sq_at (n := N) (S := S) hb).1 (sm_sq_at hb).2 hci hcl hd hl hins hsel hme hz hfr hrs hen (fun _ => hro) (fun _ _ => rfl) (fun _ => rfl) hcs hsl hst hp (fun q _ => h q)
theorem sd_gs0 {idx : Nat} (hl : Cond.fieldLink k.1.cls idx "TwoFliers$Chart" "STEP_X" "[I" ∈ sm_tb) (hd : decode k.2.1 pc = .ok (.getstatic idx, 3)) (h : sm_S j k cs sl (pc + 3) lf (.ref 0 :: st) M o) : sm_S j k cs sl pc lf st M o := by
  intro r hr nn g0 g p l e R s m args below meth c Q hC hx hn hQ H locs ls hM hS hL
  exact va_gets hC.1 hC.2.1 hC.2.2.2.2.2.2.2.2.2.1.2.1 hS hC.2.2.2.2.1 (hC.2.2.2.2.2.1 _ hl) (fun _ z => z) hd (h r hr nn g0 g p l e R s m args below meth c Q hC hx hn hQ H locs ls hM hS hL)
theorem sd_ts0 {i : Int32} {K : Int32 → Option ρ} (hd : decode k.2.1 pc = .ok (.iaload, 1)) (h : ∀ v : Int32, sm_S j k cs sl (pc + 1) lf (.int v :: st) M (K v)) : sm_S j k cs sl pc lf (.int i :: .ref 0 :: st) M (sm_rd sm_sx 8 i K) := by
  intro r hr nn g0 g p l e R s m args below meth c Q hC hx hn hQ H locs ls hM hS hL
  unfold sm_rd at hr
  split at hr
  · rename_i hi
    exact va_ti hC.1 hC.2.1 hC.2.2.2.2.2.2.2.2.2.1.2.2.2.1 hS (sm_ix_in hi) rfl hd (h _ r hr nn g0 g p l e R s m args below meth c Q hC hx hn hQ H locs ls hM hS hL)
  · cases hr
theorem sd_gs1 {idx : Nat} (hl : Cond.fieldLink k.1.cls idx "TwoFliers$Chart" "STEP_Y" "[I" ∈ sm_tb) (hd : decode k.2.1 pc = .ok (.getstatic idx, 3)) (h : sm_S j k cs sl (pc + 3) lf (.ref 1 :: st) M o) : sm_S j k cs sl pc lf st M o := by
  intro r hr nn g0 g p l e R s m args below meth c Q hC hx hn hQ H locs ls hM hS hL
  exact va_gets hC.1 hC.2.1 hC.2.2.2.2.2.2.2.2.2.1.2.2.1 hS hC.2.2.2.2.1 (hC.2.2.2.2.2.1 _ hl) (fun _ z => z) hd (h r hr nn g0 g p l e R s m args below meth c Q hC hx hn hQ H locs ls hM hS hL)
theorem sd_ts1 {i : Int32} {K : Int32 → Option ρ} (hd : decode k.2.1 pc = .ok (.iaload, 1)) (h : ∀ v : Int32, sm_S j k cs sl (pc + 1) lf (.int v :: st) M (K v)) : sm_S j k cs sl pc lf (.int i :: .ref 1 :: st) M (sm_rd sm_sy 8 i K) := by
  intro r hr nn g0 g p l e R s m args below meth c Q hC hx hn hQ H locs ls hM hS hL
  unfold sm_rd at hr
  split at hr
  · rename_i hi
    exact va_ti hC.1 hC.2.1 hC.2.2.2.2.2.2.2.2.2.1.2.2.2.2.1 hS (sm_ix_in hi) rfl hd (h _ r hr nn g0 g p l e R s m args below meth c Q hC hx hn hQ H locs ls hM hS hL)
  · cases hr
/-- the script (cell 2) -/
theorem sd_sld {i : Int32} {K : Int32 → Option ρ} (hd : decode k.2.1 pc = .ok (.iaload, 1)) (h : ∀ v : Int32, sm_S j k cs sl (pc + 1) lf (.int v :: st) (sm_m N S) (K v)) : sm_S j k cs sl pc lf (.int i :: .ref 2 :: st) (sm_m N S) (sm_rd (S.1 2) N i K) := by
  intro r hr nn g0 g p l e R s m args below meth c Q hC hx hn hQ H locs ls hM hS hL
  unfold sm_rd at hr
  split at hr
  · rename_i hi
    obtain ⟨-, -, -, -, -, h6, h7, h8, -⟩ := hC.2.2.2.2.2.2.2.2.2.1
    have eN : N = g.2.2.1 := by
      have := hM.1.2.2.1
      exact congrArg Prod.snd (Sum.inl.inj (Option.some.inj this))
    have eX : S.1 2 = g.2.2.2.1 := hM.1.2.2.2.2.2
    rw [eX] at hr
    subst eN
    exact va_sld hC.1 hC.2.1 h6 h7 h8 hS (sm_ix_in hi) hd (h _ r hr nn g0 g p l e R s m args below meth c Q hC hx hn hQ H locs ls hM hS hL)
  · cases hr
theorem sd_slen (hd : decode k.2.1 pc = .ok (.arraylength, 1)) (h : sm_S j k cs sl (pc + 1) lf (.int (Int32.ofNat N) :: st) (sm_m N S) o) : sm_S j k cs sl pc lf (.ref 2 :: st) (sm_m N S) o := by
  intro r hr nn g0 g p l e R s m args below meth c Q hC hx hn hQ H locs ls hM hS hL
  obtain ⟨-, -, -, -, -, h6, h7, h8, -⟩ := hC.2.2.2.2.2.2.2.2.2.1
  have eN : N = g.2.2.1 := by
    have := hM.1.2.2.1
    exact congrArg Prod.snd (Sum.inl.inj (Option.some.inj this))
  subst eN
  exact va_slen hC.1 hC.2.1 h6 h7 h8 hS hd (h r hr nn g0 g p l e R s m args below meth c Q hC hx hn hQ H locs ls hM hS hL)
def sm_cp {ρ : Type} (S : sm_t) (a n0 d n1 : Nat) (sp dp n : Int32) (K : sm_t → Option ρ) : Option ρ := if ¬ sp < 0 ∧ ¬ dp < 0 ∧ ¬ n < 0 ∧ sp.toNatClampNeg + n.toNatClampNeg ≤ n0 ∧ dp.toNatClampNeg + n.toNatClampNeg ≤ n1 then K (va_up S.1 d (va_cpy (S.1 a) (S.1 d) sp.toNatClampNeg dp.toNatClampNeg n.toNatClampNeg), S.2) else none
theorem sm_nat : Cond.native arraycopyName ∈ sm_tb ∧ Cond.static arraycopyName ∈ sm_tb ∧ Cond.initialized "java/lang/System" ∈ sm_tb := ⟨sm_at 351 (by decide +kernel) rfl, sm_at 350 (by decide +kernel) rfl, sm_at 78 (by decide +kernel) rfl⟩
theorem sd_copy {a n0 d n1 : Nat} {sp dp n : Int32} {K : sm_t → Option ρ} (idx : Nat) (hl : Cond.methodLink k.1.cls idx arraycopyName ∈ sm_tb) (ha : sm_sq a = some (.inl (.int, n0))) (hd1 : sm_sq d = some (.inl (.int, n1))) (hk : 1 ≤ k.2.2.2.2.1) (hrs : (st.map fun v => v.category).sum ≤ 8) (hd : decode k.2.1 pc = .ok (.invokestatic idx, 3)) (h : ∀ S : sm_t, sm_S j k cs sl (pc + 3) lf st (sm_m N S) (K S)) : sm_S j k cs sl pc lf (.int n :: .int dp :: .ref d :: .int sp :: .ref a :: st) (sm_m N S) (sm_cp S a n0 d n1 sp dp n K) := by
  intro r hr nn g0 g p l e R s m args below meth c Q hC hx hn hQ H locs ls hM hS hL
  unfold sm_cp at hr
  split at hr
  · rename_i hi
    obtain ⟨i1, i2, i3, i4, i5⟩ := hi
    obtain ⟨h3, hs'⟩ := sm_sq_at (n := N) (S := S) ha
    obtain ⟨h4, ht'⟩ := sm_sq_at (n := N) (S := S) hd1
    have hw : (sm_w g (sm_m N S))[a - 3]? = some (g.1 a, .inl (g.2.2.2.2.2 .int, n0, .inl (S.1 a))) := sm_w_at hs' h3
    have hw2 : (sm_w g (sm_m N S))[d - 3]? = some (g.1 d, .inl (g.2.2.2.2.2 .int, n1, .inl (S.1 d))) := sm_w_at ht' h4
    have hts := hC.2.2.2.2.2.1
    have hfr : 1 ≤ R.frames := Nat.le_trans hk hC.2.2.2.2.2.2.2.2.2.2.1
    have hlo : ((st.map (sm_tv g)).map fun v => v.category).sum + (nativeFrameWords "java/lang/System" "arraycopy" 5 + 11) ≤ R.locals := by
      rw [sm_cats]
      have h1 := hC.2.2.2.2.2.2.2.2.2.2.2.1
      have h2 : nativeFrameWords "java/lang/System" "arraycopy" 5 ≤ 45 := by decide +kernel
      omega
    refine va_copyi hC.1 hC.2.1 (hC.2.2.2.1.trans hL.1.symm) hC.2.2.2.2.1 (hts _ hl) (hts _ sm_nat.1) (hts _ sm_nat.2.1) (hts _ sm_nat.2.2) hC.2.2.2.2.2.2.2.2.2.1.1 hM.2.1 hM.2.2 hS (a - 3) (d - 3) 0 0 hw hw2 rfl rfl rfl i1 i2 i3 i4 i5 (fun _ _ => rfl) hfr hlo hd (fun H1 locs1 hP1 hD1 hS1 => ?_)
    exact h _ r hr nn g0 g p l e R s m args below meth c Q hC hx hn hQ H1 locs1 ls (sm_R_set (M' := sm_m N (va_up S.1 d (va_cpy (S.1 a) (S.1 d) sp.toNatClampNeg dp.toNatClampNeg n.toNatClampNeg), S.2)) hM rfl (fun b hb => ⟨sm_up_o _ _ hb, rfl, rfl⟩) ht' h4 (by simp only [sm_ce, sm_ar, sm_kd, sm_m, sm_up_s]) hP1 hD1) hS1 hL
  · cases hr
def sm_mx (x y : Int32) : Int32 := if x < y then y else x
def sm_mi (x y : Int32) : Int32 := if y < x then y else x
def sm_ab (x : Int32) : Int32 := if 0 ≤ x then x else 0 - x
def sm_al (x : Int64) : Int64 := if 0 < x then x else -x
theorem sm_wmmax : Cond.static Lib.Math.max.name ∈ sm_tb ∧ Cond.initialized "java/lang/Math" ∈ sm_tb ∧ Cond.code Lib.Math.max.name Lib.Math.max.code 2 (some .int) ∈ sm_tb := ⟨sm_at 454 (by decide +kernel) rfl, sm_at 80 (by decide +kernel) rfl, sm_at 455 (by decide +kernel) rfl⟩
theorem sd_mmax {x y : Int32} (idx : Nat) (hl : Cond.methodLink k.1.cls idx Lib.Math.max.name ∈ sm_tb) (hk : 1 ≤ k.2.2.2.2.1) (hrs : (st.map fun v => v.category).sum ≤ 8) (hcs : cs ≤ k.2.2.2.2.2.1) (hsl : sl ≤ k.2.2.2.2.2.2) (hd : decode k.2.1 pc = .ok (.invokestatic idx, 3)) (h : sm_S j k cs sl (pc + 3) lf (.int (sm_mx x y) :: st) M o) : sm_S j k cs sl pc lf (.int y :: .int x :: st) M o := by
  intro r hr nn g0 g p l e R s m args below meth c Q hC hx hn hQ H locs ls hM hS hL
  have hts := hC.2.2.2.2.2.1
  have hfr : 1 ≤ R.frames := Nat.le_trans hk hC.2.2.2.2.2.2.2.2.2.2.1
  have hlo : ((st.map (sm_tv g)).map fun v => v.category).sum + 13 ≤ R.locals := by
    rw [sm_cats]
    have h1 := hC.2.2.2.2.2.2.2.2.2.2.2.1
    omega
  exact va_mmax hC.1 hC.2.1 (hC.2.2.2.1.trans hL.1.symm) hC.2.2.2.2.1 (hts _ hl) (hts _ sm_wmmax.1) (hts _ sm_wmmax.2.1) (hts _ sm_wmmax.2.2) hfr hlo (Nat.le_trans hcs hC.2.2.2.2.2.2.2.2.2.2.2.2.1) (Nat.le_trans hsl hC.2.2.2.2.2.2.2.2.2.2.2.2.2) hd (h r hr nn g0 g p l e R s m args below meth c Q hC hx hn hQ H locs ls hM hS hL)
theorem sm_wmabs : Cond.static Lib.Math.abs.name ∈ sm_tb ∧ Cond.initialized "java/lang/Math" ∈ sm_tb ∧ Cond.code Lib.Math.abs.name Lib.Math.abs.code 1 (some .int) ∈ sm_tb := ⟨sm_at 451 (by decide +kernel) rfl, sm_at 80 (by decide +kernel) rfl, sm_at 452 (by decide +kernel) rfl⟩
theorem sd_mabs {x : Int32} (idx : Nat) (hl : Cond.methodLink k.1.cls idx Lib.Math.abs.name ∈ sm_tb) (hk : 1 ≤ k.2.2.2.2.1) (hrs : (st.map fun v => v.category).sum ≤ 8) (hcs : cs ≤ k.2.2.2.2.2.1) (hsl : sl ≤ k.2.2.2.2.2.2) (hd : decode k.2.1 pc = .ok (.invokestatic idx, 3)) (h : sm_S j k cs sl (pc + 3) lf (.int (sm_ab x) :: st) M o) : sm_S j k cs sl pc lf (.int x :: st) M o := by
  intro r hr nn g0 g p l e R s m args below meth c Q hC hx hn hQ H locs ls hM hS hL
  have hts := hC.2.2.2.2.2.1
  have hfr : 1 ≤ R.frames := Nat.le_trans hk hC.2.2.2.2.2.2.2.2.2.2.1
  have hlo : ((st.map (sm_tv g)).map fun v => v.category).sum + 13 ≤ R.locals := by
    rw [sm_cats]
    have h1 := hC.2.2.2.2.2.2.2.2.2.2.2.1
    omega
  exact va_mabs hC.1 hC.2.1 (hC.2.2.2.1.trans hL.1.symm) hC.2.2.2.2.1 (hts _ hl) (hts _ sm_wmabs.1) (hts _ sm_wmabs.2.1) (hts _ sm_wmabs.2.2) hfr hlo (Nat.le_trans hcs hC.2.2.2.2.2.2.2.2.2.2.2.2.1) (Nat.le_trans hsl hC.2.2.2.2.2.2.2.2.2.2.2.2.2) hd (h r hr nn g0 g p l e R s m args below meth c Q hC hx hn hQ H locs ls hM hS hL)
theorem sm_wmabs_long : Cond.static Lib.MathLoose.abs_long.x ∈ sm_tb ∧ Cond.initialized "java/lang/Math" ∈ sm_tb ∧ Cond.code Lib.MathLoose.abs_long.x Lib.MathLoose.abs_long.code 2 (some .long) ∈ sm_tb := ⟨sm_at 677 (by decide +kernel) rfl, sm_at 80 (by decide +kernel) rfl, sm_at 678 (by decide +kernel) rfl⟩
theorem sd_mabs_long {x : Int64} (idx : Nat) (hl : Cond.methodLink k.1.cls idx Lib.MathLoose.abs_long.x ∈ sm_tb) (hk : 1 ≤ k.2.2.2.2.1) (hrs : (st.map fun v => v.category).sum ≤ 8) (hcs : cs ≤ k.2.2.2.2.2.1) (hsl : sl ≤ k.2.2.2.2.2.2) (hd : decode k.2.1 pc = .ok (.invokestatic idx, 3)) (h : sm_S j k cs sl (pc + 3) lf (.long (sm_al x) :: st) M o) : sm_S j k cs sl pc lf (.long x :: st) M o := by
  intro r hr nn g0 g p l e R s m args below meth c Q hC hx hn hQ H locs ls hM hS hL
  have hts := hC.2.2.2.2.2.1
  have hfr : 1 ≤ R.frames := Nat.le_trans hk hC.2.2.2.2.2.2.2.2.2.2.1
  have hlo : ((st.map (sm_tv g)).map fun v => v.category).sum + 13 ≤ R.locals := by
    rw [sm_cats]
    have h1 := hC.2.2.2.2.2.2.2.2.2.2.2.1
    omega
  exact va_mabs_long hC.1 hC.2.1 (hC.2.2.2.1.trans hL.1.symm) hC.2.2.2.2.1 (hts _ hl) (hts _ sm_wmabs_long.1) (hts _ sm_wmabs_long.2.1) (hts _ sm_wmabs_long.2.2) hfr hlo (Nat.le_trans hcs hC.2.2.2.2.2.2.2.2.2.2.2.2.1) (Nat.le_trans hsl hC.2.2.2.2.2.2.2.2.2.2.2.2.2) hd (h r hr nn g0 g p l e R s m args below meth c Q hC hx hn hQ H locs ls hM hS hL)
end
