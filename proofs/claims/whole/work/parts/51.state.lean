/-! ===== what both hold: rows, texts, flight, stories, signs, what is told ===== -/
abbrev zz : Type := (Nat → Option Nat) × (Nat → Nat → Int32) × (Nat → Option Nat) × (Nat → Nat → Int32) × (Nat × Nat × (Nat → Nat) × (Nat → Nat)) × (Nat → Option (Nat → Nat)) × (Nat × (Nat → Nat → Nat)) × Int32 × Int64 × Int64 × Int32 × (Nat → Int32)
abbrev z_rs (z : zz) : Nat → Option Nat := z.1
abbrev z_rw (z : zz) : Nat → Nat → Int32 := z.2.1
abbrev z_ts (z : zz) : Nat → Option Nat := z.2.2.1
abbrev z_tw (z : zz) : Nat → Nat → Int32 := z.2.2.2.1
abbrev z_ce (z : zz) : Nat := z.2.2.2.2.1.1
abbrev z_ho (z : zz) : Nat := z.2.2.2.2.1.2.1
abbrev z_co (z : zz) : Nat → Nat := z.2.2.2.2.1.2.2.1
abbrev z_en (z : zz) : Nat → Nat := z.2.2.2.2.1.2.2.2
abbrev z_st (z : zz) : Nat → Option (Nat → Nat) := z.2.2.2.2.2.1
abbrev z_sn (z : zz) : Nat := z.2.2.2.2.2.2.1.1
abbrev z_sg (z : zz) : Nat → Nat → Nat := z.2.2.2.2.2.2.1.2
abbrev z_ak (z : zz) : Int32 := z.2.2.2.2.2.2.2.1
abbrev z_up (z : zz) : Int64 := z.2.2.2.2.2.2.2.2.1
abbrev z_lo (z : zz) : Int64 := z.2.2.2.2.2.2.2.2.2.1
abbrev z_fi (z : zz) : Int32 := z.2.2.2.2.2.2.2.2.2.2.1
abbrev z_fs (z : zz) : Nat → Int32 := z.2.2.2.2.2.2.2.2.2.2.2
def zq_rs (z : zz) (v : Nat → Option Nat) : zz := (v, z.2)
def zq_rw (z : zz) (v : Nat → Nat → Int32) : zz := (z.1, v, z.2.2)
def zq_ts (z : zz) (v : Nat → Option Nat) : zz := (z.1, z.2.1, v, z.2.2.2)
def zq_tw (z : zz) (v : Nat → Nat → Int32) : zz := (z.1, z.2.1, z.2.2.1, v, z.2.2.2.2)
def zq_fl (z : zz) (v : Nat × Nat × (Nat → Nat) × (Nat → Nat)) : zz := (z.1, z.2.1, z.2.2.1, z.2.2.2.1, v, z.2.2.2.2.2)
def zq_st (z : zz) (v : Nat → Option (Nat → Nat)) : zz := (z.1, z.2.1, z.2.2.1, z.2.2.2.1, z.2.2.2.2.1, v, z.2.2.2.2.2.2)
def zq_sg (z : zz) (v : Nat × (Nat → Nat → Nat)) : zz := (z.1, z.2.1, z.2.2.1, z.2.2.2.1, z.2.2.2.2.1, z.2.2.2.2.2.1, v, z.2.2.2.2.2.2.2)
def zq_ak (z : zz) (v : Int32) : zz := (z.1, z.2.1, z.2.2.1, z.2.2.2.1, z.2.2.2.2.1, z.2.2.2.2.2.1, z.2.2.2.2.2.2.1, v, z.2.2.2.2.2.2.2.2)
def zq_ul (z : zz) (u l : Int64) : zz := (z.1, z.2.1, z.2.2.1, z.2.2.2.1, z.2.2.2.2.1, z.2.2.2.2.2.1, z.2.2.2.2.2.2.1, z.2.2.2.2.2.2.2.1, u, l, z.2.2.2.2.2.2.2.2.2.2)
def zq_fd (z : zz) (f : Nat) : zz := (z.1, z.2.1, z.2.2.1, z.2.2.2.1, z.2.2.2.2.1, z.2.2.2.2.2.1, z.2.2.2.2.2.2.1, z.2.2.2.2.2.2.2.1, z.2.2.2.2.2.2.2.2.1, z.2.2.2.2.2.2.2.2.2.1, nI f, fun i => if i = f then z_fs z f + 1 else z_fs z i)
/-- a size, as the class and as the reference keep it -/
def z_x (o : Option Nat) : Int32 := match o with
  | some n => nI n
  | none => -1
def z_m (o : Option Nat) : Int32 := match o with
  | some n => nI n
  | none => -9
def z_b (o : Option (Nat → Nat)) : Int32 := match o with
  | some _ => 1
  | none => 0
/-- what is always so -/
def zw_sg (k a b c u : Nat) : Prop := u ≤ 1 ∧ (k = 0 ∧ a = 0 ∧ b = 0 ∧ c = 0 ∨ (k = 1 ∨ k = 2) ∧ a ≤ 6 ∧ b < 120 ∧ c ≤ 5 ∨ k = 3 ∧ a ≤ 6 ∧ b = 0 ∧ c = 0 ∨ k = 4 ∧ a < 120 ∧ b < 120 ∧ c ≤ 12 ∨ (k = 5 ∨ k = 6) ∧ a < 120 ∧ b < 8 ∧ c ≤ 12 ∨ k = 7 ∧ a < 120 ∧ b ≤ 9 ∧ c ≤ 12)
def zw (z : zz) : Prop := (∀ r n, z_rs z r = some n → n ≤ 40) ∧ (∀ r n, z_ts z r = some n → n ≤ 80) ∧ (z_ce z < 120 ∧ z_ho z ≤ 6 ∧ (∀ h, h < z_ho z → z_co z h < 8) ∧ (∀ h, h ≤ z_ho z → z_en z h ≤ 9)) ∧ (∀ k w, z_st z k = some w → ∀ c, c < 120 → w c ≤ 99) ∧ z_sn z ≤ 12 ∧ (∀ e, e < z_sn z → zw_sg (z_sg z e 0) (z_sg z e 1) (z_sg z e 2) (z_sg z e 3) (z_sg z e 4)) ∧ (∀ t k, t < 4 → k < 80 → -128 ≤ (z_tw z t k).toInt ∧ (z_tw z t k).toInt ≤ 127)
/-- the class's part of a memory; the rest is J's -/
def xj (J S : sm_t) : Prop := ∀ b, (b < 3 ∨ 52 ≤ b) → S.1 b = J.1 b ∧ S.2.1 b = J.2.1 b
def xi (z : zz) (J S : sm_t) : Prop := xj J S ∧ (∀ r, r < 6 → S.1 11 r = z_x (z_rs z r)) ∧ (∀ r k, r < 6 → k < 40 → S.1 (5 + r) k = z_rw z r k) ∧ (∀ t, t < 4 → S.1 17 t = z_x (z_ts z t)) ∧ (∀ t k, t < 4 → k < 80 → S.1 (13 + t) k = z_tw z t k) ∧ (S.1 19 0 = nI (z_ce z) ∧ S.1 19 1 = nI (z_ho z) ∧ (∀ h, h < z_ho z → S.1 20 h = nI (z_co z h)) ∧ (∀ h, h ≤ z_ho z → S.1 21 h = nI (z_en z h))) ∧ (∀ k, k < 3 → S.1 45 k = z_b (z_st z (k + 1)) ∧ ∀ w, z_st z (k + 1) = some w → ∀ c, c < 120 → S.1 (37 + k) c = nI (w c)) ∧ (S.1 22 1 = nI (z_sn z) ∧ ∀ e i, e < z_sn z → i < 5 → S.1 (24 + e) i = nI (z_sg z e i)) ∧ (S.1 3 11 = z_ak z ∧ S.2.1 3 12 = z_up z ∧ S.2.1 3 13 = z_lo z ∧ S.1 3 14 = z_fi z ∧ ∀ f, f < 6 → S.1 51 f = z_fs z f) ∧ ((S.2.2.1 = 42 ∧ S.2.2.2.1 = 43) ∨ (S.2.2.1 = 43 ∧ S.2.2.2.1 = 42))
/-- the reference's part -/
def mj (J S : sm_t) : Prop := (∀ b, b < 52 → S.1 b = J.1 b ∧ S.2.1 b = J.2.1 b) ∧ S.2.2 = J.2.2
def mi (z : zz) (J S : sm_t) : Prop := mj J S ∧ (∀ r, r < 6 → S.1 54 r = z_m (z_rs z r)) ∧ (∀ r k, r < 6 → k < 40 → S.1 55 (40 * r + k) = z_rw z r k) ∧ (∀ t, t < 4 → S.1 57 t = z_m (z_ts z t)) ∧ (∀ t k, t < 4 → k < 80 → S.1 58 (80 * t + k) = z_tw z t k) ∧ (S.1 59 0 = nI (z_ce z) ∧ S.1 59 1 = nI (z_ho z) ∧ (∀ h, h < 6 → S.1 59 (2 + h) = if h < z_ho z then nI (z_co z h) else -9) ∧ (∀ h, h < 7 → S.1 59 (8 + h) = if h ≤ z_ho z then nI (z_en z h) else -9)) ∧ (S.1 60 0 = 0 ∧ ∀ k, k < 3 → S.1 60 (k + 1) = z_b (z_st z (k + 1)) ∧ ∀ w, z_st z (k + 1) = some w → ∀ c, c < 120 → S.1 61 (120 * (k + 1) + c) = nI (w c)) ∧ (S.1 52 17 = nI (z_sn z) ∧ ∀ e i, e < z_sn z → i < 5 → S.1 63 (5 * e + i) = nI (z_sg z e i)) ∧ (S.1 52 2 = z_ak z ∧ S.2.1 52 3 = z_up z ∧ S.2.1 52 4 = z_lo z ∧ S.1 52 0 = z_fi z ∧ ∀ f, f < 6 → S.1 53 f = z_fs z f) ∧ S.1 52 19 = -9
