/-! ===== a change of one part ===== -/
def wf (S : sm_t) (a : Nat) (g : Nat → Int32) : sm_t := (va_up S.1 a g, S.2)
def wg (S : sm_t) (a : Nat) (g : Nat → Int64) : sm_t := (S.1, va_up S.2.1 a g, S.2.2)
theorem wf_s {S : sm_t} {a : Nat} {g : Nat → Int32} : (wf S a g).1 a = g := sm_up_s _ _ _
theorem wf_o {S : sm_t} {a b : Nat} {g : Nat → Int32} (h : b ≠ a) : (wf S a g).1 b = S.1 b := sm_up_o _ _ h
theorem wf_2 {S : sm_t} {a : Nat} {g : Nat → Int32} : (wf S a g).2 = S.2 := rfl
theorem wg_s {S : sm_t} {a : Nat} {g : Nat → Int64} : (wg S a g).2.1 a = g := sm_up_s _ _ _
theorem wg_o {S : sm_t} {a b : Nat} {g : Nat → Int64} (h : b ≠ a) : (wg S a g).2.1 b = S.2.1 b := sm_up_o _ _ h
theorem wg_1 {S : sm_t} {a : Nat} {g : Nat → Int64} : (wg S a g).1 = S.1 := rfl
theorem wg_2 {S : sm_t} {a : Nat} {g : Nat → Int64} : (wg S a g).2.2 = S.2.2 := rfl
theorem wI_f {S : sm_t} {a i : Nat} {x : Int32} : sm_wI S a i x = wf S a (upd (S.1 a) i x) := rfl
theorem wL_g {S : sm_t} {a i : Nat} {x : Int64} : sm_wL S a i x = wg S a (vp_updL (S.2.1 a) i x) := rfl
theorem va_up_up {α : Type} (f : Nat → α) (a : Nat) (x y : α) : va_up (va_up f a x) a y = va_up f a y := by
  funext b
  by_cases h : b = a
  · subst h
    rw [sm_up_s, sm_up_s]
  · rw [sm_up_o _ _ h, sm_up_o _ _ h, sm_up_o _ _ h]
theorem wf_wf {S : sm_t} {a : Nat} {g g1 : Nat → Int32} : wf (wf S a g) a g1 = wf S a g1 := by
  unfold wf
  rw [va_up_up]
theorem wg_wg {S : sm_t} {a : Nat} {g g1 : Nat → Int64} : wg (wg S a g) a g1 = wg S a g1 := by
  unfold wg
  rw [va_up_up]
theorem xc_rs {z : zz} {J S S1 : sm_t} (v : Nat → Option Nat) (hz : zw z) (h : xi z J S) (hb0 : ∀ b, ¬ (b = 11) → S1.1 b = S.1 b) (h2 : S1.2 = S.2) (hp : ∀ r, r < 6 → S1.1 11 r = z_x (v r)) : xi (zq_rs z v) J S1 := by
  obtain ⟨h0, h1, h2r, h3, h4, h5, h6, h7, h8, h9⟩ := h
  exact ⟨fun b hb => by
    rw [hb0 b (by omega), h2]
    exact h0 b hb, hp, fun r k hr hk => by
    rw [hb0 (5 + r) (by omega)]
    exact h2r r k hr hk, fun t ht => by
    rw [hb0 17 (by omega)]
    exact h3 t ht, fun t k ht hk => by
    rw [hb0 (13 + t) (by omega)]
    exact h4 t k ht hk, by
    rw [hb0 19 (by omega), hb0 20 (by omega), hb0 21 (by omega)]
    exact h5, fun k hk => by
    rw [hb0 45 (by omega), hb0 (37 + k) (by omega)]
    exact h6 k hk, ⟨by
    rw [hb0 22 (by omega)]
    exact h7.1, fun e i he hi => by
    rw [hb0 (24 + e) (by have := Nat.lt_of_lt_of_le he hz.2.2.2.2.1; omega)]
    exact h7.2 e i he hi⟩, by
    rw [hb0 3 (by omega), hb0 51 (by omega), h2]
    exact h8, by
    rw [h2]
    exact h9⟩
theorem xc_rw {z : zz} {J S S1 : sm_t} (v : Nat → Nat → Int32) (hz : zw z) (h : xi z J S) (hb0 : ∀ b, ¬ (5 ≤ b ∧ b < 11) → S1.1 b = S.1 b) (h2 : S1.2 = S.2) (hp : ∀ r k, r < 6 → k < 40 → S1.1 (5 + r) k = v r k) : xi (zq_rw z v) J S1 := by
  obtain ⟨h0, h1, h2r, h3, h4, h5, h6, h7, h8, h9⟩ := h
  exact ⟨fun b hb => by
    rw [hb0 b (by omega), h2]
    exact h0 b hb, fun r hr => by
    rw [hb0 11 (by omega)]
    exact h1 r hr, hp, fun t ht => by
    rw [hb0 17 (by omega)]
    exact h3 t ht, fun t k ht hk => by
    rw [hb0 (13 + t) (by omega)]
    exact h4 t k ht hk, by
    rw [hb0 19 (by omega), hb0 20 (by omega), hb0 21 (by omega)]
    exact h5, fun k hk => by
    rw [hb0 45 (by omega), hb0 (37 + k) (by omega)]
    exact h6 k hk, ⟨by
    rw [hb0 22 (by omega)]
    exact h7.1, fun e i he hi => by
    rw [hb0 (24 + e) (by have := Nat.lt_of_lt_of_le he hz.2.2.2.2.1; omega)]
    exact h7.2 e i he hi⟩, by
    rw [hb0 3 (by omega), hb0 51 (by omega), h2]
    exact h8, by
    rw [h2]
    exact h9⟩
theorem xc_ts {z : zz} {J S S1 : sm_t} (v : Nat → Option Nat) (hz : zw z) (h : xi z J S) (hb0 : ∀ b, ¬ (b = 17) → S1.1 b = S.1 b) (h2 : S1.2 = S.2) (hp : ∀ t, t < 4 → S1.1 17 t = z_x (v t)) : xi (zq_ts z v) J S1 := by
  obtain ⟨h0, h1, h2r, h3, h4, h5, h6, h7, h8, h9⟩ := h
  exact ⟨fun b hb => by
    rw [hb0 b (by omega), h2]
    exact h0 b hb, fun r hr => by
    rw [hb0 11 (by omega)]
    exact h1 r hr, fun r k hr hk => by
    rw [hb0 (5 + r) (by omega)]
    exact h2r r k hr hk, hp, fun t k ht hk => by
    rw [hb0 (13 + t) (by omega)]
    exact h4 t k ht hk, by
    rw [hb0 19 (by omega), hb0 20 (by omega), hb0 21 (by omega)]
    exact h5, fun k hk => by
    rw [hb0 45 (by omega), hb0 (37 + k) (by omega)]
    exact h6 k hk, ⟨by
    rw [hb0 22 (by omega)]
    exact h7.1, fun e i he hi => by
    rw [hb0 (24 + e) (by have := Nat.lt_of_lt_of_le he hz.2.2.2.2.1; omega)]
    exact h7.2 e i he hi⟩, by
    rw [hb0 3 (by omega), hb0 51 (by omega), h2]
    exact h8, by
    rw [h2]
    exact h9⟩
theorem xc_tw {z : zz} {J S S1 : sm_t} (v : Nat → Nat → Int32) (hz : zw z) (h : xi z J S) (hb0 : ∀ b, ¬ (13 ≤ b ∧ b < 17) → S1.1 b = S.1 b) (h2 : S1.2 = S.2) (hp : ∀ t k, t < 4 → k < 80 → S1.1 (13 + t) k = v t k) : xi (zq_tw z v) J S1 := by
  obtain ⟨h0, h1, h2r, h3, h4, h5, h6, h7, h8, h9⟩ := h
  exact ⟨fun b hb => by
    rw [hb0 b (by omega), h2]
    exact h0 b hb, fun r hr => by
    rw [hb0 11 (by omega)]
    exact h1 r hr, fun r k hr hk => by
    rw [hb0 (5 + r) (by omega)]
    exact h2r r k hr hk, fun t ht => by
    rw [hb0 17 (by omega)]
    exact h3 t ht, hp, by
    rw [hb0 19 (by omega), hb0 20 (by omega), hb0 21 (by omega)]
    exact h5, fun k hk => by
    rw [hb0 45 (by omega), hb0 (37 + k) (by omega)]
    exact h6 k hk, ⟨by
    rw [hb0 22 (by omega)]
    exact h7.1, fun e i he hi => by
    rw [hb0 (24 + e) (by have := Nat.lt_of_lt_of_le he hz.2.2.2.2.1; omega)]
    exact h7.2 e i he hi⟩, by
    rw [hb0 3 (by omega), hb0 51 (by omega), h2]
    exact h8, by
    rw [h2]
    exact h9⟩
theorem xc_fl {z : zz} {J S S1 : sm_t} (v : Nat × Nat × (Nat → Nat) × (Nat → Nat)) (hz : zw z) (h : xi z J S) (hb0 : ∀ b, ¬ (19 ≤ b ∧ b < 22) → S1.1 b = S.1 b) (h2 : S1.2 = S.2) (hp : S1.1 19 0 = nI v.1 ∧ S1.1 19 1 = nI v.2.1 ∧ (∀ h, h < v.2.1 → S1.1 20 h = nI (v.2.2.1 h)) ∧ (∀ h, h ≤ v.2.1 → S1.1 21 h = nI (v.2.2.2 h))) : xi (zq_fl z v) J S1 := by
  obtain ⟨h0, h1, h2r, h3, h4, h5, h6, h7, h8, h9⟩ := h
  exact ⟨fun b hb => by
    rw [hb0 b (by omega), h2]
    exact h0 b hb, fun r hr => by
    rw [hb0 11 (by omega)]
    exact h1 r hr, fun r k hr hk => by
    rw [hb0 (5 + r) (by omega)]
    exact h2r r k hr hk, fun t ht => by
    rw [hb0 17 (by omega)]
    exact h3 t ht, fun t k ht hk => by
    rw [hb0 (13 + t) (by omega)]
    exact h4 t k ht hk, hp, fun k hk => by
    rw [hb0 45 (by omega), hb0 (37 + k) (by omega)]
    exact h6 k hk, ⟨by
    rw [hb0 22 (by omega)]
    exact h7.1, fun e i he hi => by
    rw [hb0 (24 + e) (by have := Nat.lt_of_lt_of_le he hz.2.2.2.2.1; omega)]
    exact h7.2 e i he hi⟩, by
    rw [hb0 3 (by omega), hb0 51 (by omega), h2]
    exact h8, by
    rw [h2]
    exact h9⟩
theorem xc_st {z : zz} {J S S1 : sm_t} (v : Nat → Option (Nat → Nat)) (hz : zw z) (h : xi z J S) (hb0 : ∀ b, ¬ (b = 45 ∨ 37 ≤ b ∧ b < 40) → S1.1 b = S.1 b) (h2 : S1.2 = S.2) (hp : ∀ k, k < 3 → S1.1 45 k = z_b (v (k + 1)) ∧ ∀ w, v (k + 1) = some w → ∀ c, c < 120 → S1.1 (37 + k) c = nI (w c)) : xi (zq_st z v) J S1 := by
  obtain ⟨h0, h1, h2r, h3, h4, h5, h6, h7, h8, h9⟩ := h
  exact ⟨fun b hb => by
    rw [hb0 b (by omega), h2]
    exact h0 b hb, fun r hr => by
    rw [hb0 11 (by omega)]
    exact h1 r hr, fun r k hr hk => by
    rw [hb0 (5 + r) (by omega)]
    exact h2r r k hr hk, fun t ht => by
    rw [hb0 17 (by omega)]
    exact h3 t ht, fun t k ht hk => by
    rw [hb0 (13 + t) (by omega)]
    exact h4 t k ht hk, by
    rw [hb0 19 (by omega), hb0 20 (by omega), hb0 21 (by omega)]
    exact h5, hp, ⟨by
    rw [hb0 22 (by omega)]
    exact h7.1, fun e i he hi => by
    rw [hb0 (24 + e) (by have := Nat.lt_of_lt_of_le he hz.2.2.2.2.1; omega)]
    exact h7.2 e i he hi⟩, by
    rw [hb0 3 (by omega), hb0 51 (by omega), h2]
    exact h8, by
    rw [h2]
    exact h9⟩
theorem xc_sg {z : zz} {J S S1 : sm_t} (v : Nat × (Nat → Nat → Nat)) (h : xi z J S) (hb0 : ∀ b, ¬ (b = 22 ∨ 24 ≤ b ∧ b < 36) → S1.1 b = S.1 b) (h2 : S1.2 = S.2) (hp : S1.1 22 1 = nI v.1 ∧ ∀ e i, e < v.1 → i < 5 → S1.1 (24 + e) i = nI (v.2 e i)) : xi (zq_sg z v) J S1 := by
  obtain ⟨h0, h1, h2r, h3, h4, h5, h6, h7, h8, h9⟩ := h
  exact ⟨fun b hb => by
    rw [hb0 b (by omega), h2]
    exact h0 b hb, fun r hr => by
    rw [hb0 11 (by omega)]
    exact h1 r hr, fun r k hr hk => by
    rw [hb0 (5 + r) (by omega)]
    exact h2r r k hr hk, fun t ht => by
    rw [hb0 17 (by omega)]
    exact h3 t ht, fun t k ht hk => by
    rw [hb0 (13 + t) (by omega)]
    exact h4 t k ht hk, by
    rw [hb0 19 (by omega), hb0 20 (by omega), hb0 21 (by omega)]
    exact h5, fun k hk => by
    rw [hb0 45 (by omega), hb0 (37 + k) (by omega)]
    exact h6 k hk, hp, by
    rw [hb0 3 (by omega), hb0 51 (by omega), h2]
    exact h8, by
    rw [h2]
    exact h9⟩
theorem xc_tl {z z1 : zz} {J S S1 : sm_t} (hz : zw z) (h : xi z J S) (hb0 : ∀ b, ¬ (b = 3 ∨ b = 51) → S1.1 b = S.1 b) (h2 : ∀ b, ¬ b = 3 → S1.2.1 b = S.2.1 b) (h22 : S1.2.2 = S.2.2) (hq : (z_rs z1, z_rw z1, z_ts z1, z_tw z1, z.2.2.2.2.1, z_st z1, z.2.2.2.2.2.2.1) = (z_rs z, z_rw z, z_ts z, z_tw z, z1.2.2.2.2.1, z_st z, z1.2.2.2.2.2.2.1)) (hp : S1.1 3 11 = z_ak z1 ∧ S1.2.1 3 12 = z_up z1 ∧ S1.2.1 3 13 = z_lo z1 ∧ S1.1 3 14 = z_fi z1 ∧ ∀ f, f < 6 → S1.1 51 f = z_fs z1 f) : xi z1 J S1 := by
  obtain ⟨h0, h1, h2r, h3, h4, h5, h6, h7, h8, h9⟩ := h
  obtain ⟨a1, a2, a3, a4, a5, a6, a7, a8⟩ := z
  obtain ⟨b1, b2, b3, b4, b5, b6, b7, b8⟩ := z1
  simp only [z_rs, z_rw, z_ts, z_tw, z_st, Prod.mk.injEq] at hq
  obtain ⟨q1, q2, q3, q4, q5, q6, q7⟩ := hq
  subst q1 q2 q3 q4 q6
  subst q5 q7
  exact ⟨fun b hb => by
    rw [hb0 b (by omega), h2 b (by omega)]
    exact h0 b hb, fun r hr => by
    rw [hb0 11 (by omega)]
    exact h1 r hr, fun r k hr hk => by
    rw [hb0 (5 + r) (by omega)]
    exact h2r r k hr hk, fun t ht => by
    rw [hb0 17 (by omega)]
    exact h3 t ht, fun t k ht hk => by
    rw [hb0 (13 + t) (by omega)]
    exact h4 t k ht hk, by
    rw [hb0 19 (by omega), hb0 20 (by omega), hb0 21 (by omega)]
    exact h5, fun k hk => by
    rw [hb0 45 (by omega), hb0 (37 + k) (by omega)]
    exact h6 k hk, ⟨by
    rw [hb0 22 (by omega)]
    exact h7.1, fun e i he hi => by
    rw [hb0 (24 + e) (by have := Nat.lt_of_lt_of_le he hz.2.2.2.2.1; omega)]
    exact h7.2 e i he hi⟩, hp, by
    rw [h22]
    exact h9⟩
theorem xc_sc {z : zz} {J S S1 : sm_t} (hz : zw z) (h : xi z J S) (hb0 : ∀ b, ¬ (b = 18 ∨ 40 ≤ b ∧ b < 45 ∨ 46 ≤ b ∧ b < 51) → S1.1 b = S.1 b) (h2 : ∀ b, ¬ (b = 18 ∨ 40 ≤ b ∧ b < 45 ∨ 46 ≤ b ∧ b < 51) → S1.2.1 b = S.2.1 b) (hp : (S1.2.2.1 = 42 ∧ S1.2.2.2.1 = 43) ∨ (S1.2.2.1 = 43 ∧ S1.2.2.2.1 = 42)) : xi z J S1 := by
  obtain ⟨h0, h1, h2r, h3, h4, h5, h6, h7, h8, h9⟩ := h
  exact ⟨fun b hb => by
    rw [hb0 b (by omega), h2 b (by omega)]
    exact h0 b hb, fun r hr => by
    rw [hb0 11 (by omega)]
    exact h1 r hr, fun r k hr hk => by
    rw [hb0 (5 + r) (by omega)]
    exact h2r r k hr hk, fun t ht => by
    rw [hb0 17 (by omega)]
    exact h3 t ht, fun t k ht hk => by
    rw [hb0 (13 + t) (by omega)]
    exact h4 t k ht hk, by
    rw [hb0 19 (by omega), hb0 20 (by omega), hb0 21 (by omega)]
    exact h5, fun k hk => by
    rw [hb0 45 (by omega), hb0 (37 + k) (by omega)]
    exact h6 k hk, ⟨by
    rw [hb0 22 (by omega)]
    exact h7.1, fun e i he hi => by
    rw [hb0 (24 + e) (by have := Nat.lt_of_lt_of_le he hz.2.2.2.2.1; omega)]
    exact h7.2 e i he hi⟩, by
    rw [hb0 3 (by omega), hb0 51 (by omega), h2 3 (by omega)]
    exact h8, hp⟩
theorem mc_rs {z : zz} {J S S1 : sm_t} (v : Nat → Option Nat) (h : mi z J S) (hb0 : ∀ b, ¬ (b = 54) → S1.1 b = S.1 b) (h2 : S1.2 = S.2) (hp : ∀ r, r < 6 → S1.1 54 r = z_m (v r)) : mi (zq_rs z v) J S1 := by
  obtain ⟨h0, h1, h2r, h3, h4, h5, h6, h7, h8, h9⟩ := h
  exact ⟨⟨fun b hb => by
    rw [hb0 b (by omega), h2]
    exact h0.1 b hb, by
    rw [h2]
    exact h0.2⟩, hp, fun r k hr hk => by
    rw [hb0 55 (by omega)]
    exact h2r r k hr hk, fun t ht => by
    rw [hb0 57 (by omega)]
    exact h3 t ht, fun t k ht hk => by
    rw [hb0 58 (by omega)]
    exact h4 t k ht hk, by
    rw [hb0 59 (by omega)]
    exact h5, by
    rw [hb0 60 (by omega), hb0 61 (by omega)]
    exact h6, by
    rw [hb0 52 (by omega), hb0 63 (by omega)]
    exact h7, by
    rw [hb0 52 (by omega), hb0 53 (by omega), h2]
    exact h8, by
    rw [hb0 52 (by omega)]
    exact h9⟩
theorem mc_rw {z : zz} {J S S1 : sm_t} (v : Nat → Nat → Int32) (h : mi z J S) (hb0 : ∀ b, ¬ (b = 55) → S1.1 b = S.1 b) (h2 : S1.2 = S.2) (hp : ∀ r k, r < 6 → k < 40 → S1.1 55 (40 * r + k) = v r k) : mi (zq_rw z v) J S1 := by
  obtain ⟨h0, h1, h2r, h3, h4, h5, h6, h7, h8, h9⟩ := h
  exact ⟨⟨fun b hb => by
    rw [hb0 b (by omega), h2]
    exact h0.1 b hb, by
    rw [h2]
    exact h0.2⟩, fun r hr => by
    rw [hb0 54 (by omega)]
    exact h1 r hr, hp, fun t ht => by
    rw [hb0 57 (by omega)]
    exact h3 t ht, fun t k ht hk => by
    rw [hb0 58 (by omega)]
    exact h4 t k ht hk, by
    rw [hb0 59 (by omega)]
    exact h5, by
    rw [hb0 60 (by omega), hb0 61 (by omega)]
    exact h6, by
    rw [hb0 52 (by omega), hb0 63 (by omega)]
    exact h7, by
    rw [hb0 52 (by omega), hb0 53 (by omega), h2]
    exact h8, by
    rw [hb0 52 (by omega)]
    exact h9⟩
theorem mc_ts {z : zz} {J S S1 : sm_t} (v : Nat → Option Nat) (h : mi z J S) (hb0 : ∀ b, ¬ (b = 57) → S1.1 b = S.1 b) (h2 : S1.2 = S.2) (hp : ∀ t, t < 4 → S1.1 57 t = z_m (v t)) : mi (zq_ts z v) J S1 := by
  obtain ⟨h0, h1, h2r, h3, h4, h5, h6, h7, h8, h9⟩ := h
  exact ⟨⟨fun b hb => by
    rw [hb0 b (by omega), h2]
    exact h0.1 b hb, by
    rw [h2]
    exact h0.2⟩, fun r hr => by
    rw [hb0 54 (by omega)]
    exact h1 r hr, fun r k hr hk => by
    rw [hb0 55 (by omega)]
    exact h2r r k hr hk, hp, fun t k ht hk => by
    rw [hb0 58 (by omega)]
    exact h4 t k ht hk, by
    rw [hb0 59 (by omega)]
    exact h5, by
    rw [hb0 60 (by omega), hb0 61 (by omega)]
    exact h6, by
    rw [hb0 52 (by omega), hb0 63 (by omega)]
    exact h7, by
    rw [hb0 52 (by omega), hb0 53 (by omega), h2]
    exact h8, by
    rw [hb0 52 (by omega)]
    exact h9⟩
theorem mc_tw {z : zz} {J S S1 : sm_t} (v : Nat → Nat → Int32) (h : mi z J S) (hb0 : ∀ b, ¬ (b = 58) → S1.1 b = S.1 b) (h2 : S1.2 = S.2) (hp : ∀ t k, t < 4 → k < 80 → S1.1 58 (80 * t + k) = v t k) : mi (zq_tw z v) J S1 := by
  obtain ⟨h0, h1, h2r, h3, h4, h5, h6, h7, h8, h9⟩ := h
  exact ⟨⟨fun b hb => by
    rw [hb0 b (by omega), h2]
    exact h0.1 b hb, by
    rw [h2]
    exact h0.2⟩, fun r hr => by
    rw [hb0 54 (by omega)]
    exact h1 r hr, fun r k hr hk => by
    rw [hb0 55 (by omega)]
    exact h2r r k hr hk, fun t ht => by
    rw [hb0 57 (by omega)]
    exact h3 t ht, hp, by
    rw [hb0 59 (by omega)]
    exact h5, by
    rw [hb0 60 (by omega), hb0 61 (by omega)]
    exact h6, by
    rw [hb0 52 (by omega), hb0 63 (by omega)]
    exact h7, by
    rw [hb0 52 (by omega), hb0 53 (by omega), h2]
    exact h8, by
    rw [hb0 52 (by omega)]
    exact h9⟩
theorem mc_fl {z : zz} {J S S1 : sm_t} (v : Nat × Nat × (Nat → Nat) × (Nat → Nat)) (h : mi z J S) (hb0 : ∀ b, ¬ (b = 59) → S1.1 b = S.1 b) (h2 : S1.2 = S.2) (hp : S1.1 59 0 = nI v.1 ∧ S1.1 59 1 = nI v.2.1 ∧ (∀ h, h < 6 → S1.1 59 (2 + h) = if h < v.2.1 then nI (v.2.2.1 h) else -9) ∧ (∀ h, h < 7 → S1.1 59 (8 + h) = if h ≤ v.2.1 then nI (v.2.2.2 h) else -9)) : mi (zq_fl z v) J S1 := by
  obtain ⟨h0, h1, h2r, h3, h4, h5, h6, h7, h8, h9⟩ := h
  exact ⟨⟨fun b hb => by
    rw [hb0 b (by omega), h2]
    exact h0.1 b hb, by
    rw [h2]
    exact h0.2⟩, fun r hr => by
    rw [hb0 54 (by omega)]
    exact h1 r hr, fun r k hr hk => by
    rw [hb0 55 (by omega)]
    exact h2r r k hr hk, fun t ht => by
    rw [hb0 57 (by omega)]
    exact h3 t ht, fun t k ht hk => by
    rw [hb0 58 (by omega)]
    exact h4 t k ht hk, hp, by
    rw [hb0 60 (by omega), hb0 61 (by omega)]
    exact h6, by
    rw [hb0 52 (by omega), hb0 63 (by omega)]
    exact h7, by
    rw [hb0 52 (by omega), hb0 53 (by omega), h2]
    exact h8, by
    rw [hb0 52 (by omega)]
    exact h9⟩
theorem mc_st {z : zz} {J S S1 : sm_t} (v : Nat → Option (Nat → Nat)) (h : mi z J S) (hb0 : ∀ b, ¬ (b = 60 ∨ b = 61) → S1.1 b = S.1 b) (h2 : S1.2 = S.2) (hp : S1.1 60 0 = 0 ∧ ∀ k, k < 3 → S1.1 60 (k + 1) = z_b (v (k + 1)) ∧ ∀ w, v (k + 1) = some w → ∀ c, c < 120 → S1.1 61 (120 * (k + 1) + c) = nI (w c)) : mi (zq_st z v) J S1 := by
  obtain ⟨h0, h1, h2r, h3, h4, h5, h6, h7, h8, h9⟩ := h
  exact ⟨⟨fun b hb => by
    rw [hb0 b (by omega), h2]
    exact h0.1 b hb, by
    rw [h2]
    exact h0.2⟩, fun r hr => by
    rw [hb0 54 (by omega)]
    exact h1 r hr, fun r k hr hk => by
    rw [hb0 55 (by omega)]
    exact h2r r k hr hk, fun t ht => by
    rw [hb0 57 (by omega)]
    exact h3 t ht, fun t k ht hk => by
    rw [hb0 58 (by omega)]
    exact h4 t k ht hk, by
    rw [hb0 59 (by omega)]
    exact h5, hp, by
    rw [hb0 52 (by omega), hb0 63 (by omega)]
    exact h7, by
    rw [hb0 52 (by omega), hb0 53 (by omega), h2]
    exact h8, by
    rw [hb0 52 (by omega)]
    exact h9⟩
theorem mc_sg {z : zz} {J S S1 : sm_t} (v : Nat × (Nat → Nat → Nat)) (h : mi z J S) (hb0 : ∀ b, ¬ (b = 52 ∨ b = 63) → S1.1 b = S.1 b) (h51 : ∀ i, i ≠ 17 → S1.1 52 i = S.1 52 i) (h2 : S1.2 = S.2) (hp : S1.1 52 17 = nI v.1 ∧ ∀ e i, e < v.1 → i < 5 → S1.1 63 (5 * e + i) = nI (v.2 e i)) : mi (zq_sg z v) J S1 := by
  obtain ⟨h0, h1, h2r, h3, h4, h5, h6, h7, h8, h9⟩ := h
  exact ⟨⟨fun b hb => by
    rw [hb0 b (by omega), h2]
    exact h0.1 b hb, by
    rw [h2]
    exact h0.2⟩, fun r hr => by
    rw [hb0 54 (by omega)]
    exact h1 r hr, fun r k hr hk => by
    rw [hb0 55 (by omega)]
    exact h2r r k hr hk, fun t ht => by
    rw [hb0 57 (by omega)]
    exact h3 t ht, fun t k ht hk => by
    rw [hb0 58 (by omega)]
    exact h4 t k ht hk, by
    rw [hb0 59 (by omega)]
    exact h5, by
    rw [hb0 60 (by omega), hb0 61 (by omega)]
    exact h6, hp, by
    rw [h51 2 (by omega), h51 0 (by omega), hb0 53 (by omega), h2]
    exact h8, by
    rw [h51 19 (by omega)]
    exact h9⟩
theorem mc_tl {z z1 : zz} {J S S1 : sm_t} (h : mi z J S) (hb0 : ∀ b, ¬ (b = 52 ∨ b = 53) → S1.1 b = S.1 b) (h51 : ∀ i, ¬ (i = 0 ∨ i = 2) → S1.1 52 i = S.1 52 i) (h2 : ∀ b, ¬ b = 52 → S1.2.1 b = S.2.1 b) (h22 : S1.2.2 = S.2.2) (hq : (z_rs z1, z_rw z1, z_ts z1, z_tw z1, z.2.2.2.2.1, z_st z1, z.2.2.2.2.2.2.1) = (z_rs z, z_rw z, z_ts z, z_tw z, z1.2.2.2.2.1, z_st z, z1.2.2.2.2.2.2.1)) (hp : S1.1 52 2 = z_ak z1 ∧ S1.2.1 52 3 = z_up z1 ∧ S1.2.1 52 4 = z_lo z1 ∧ S1.1 52 0 = z_fi z1 ∧ ∀ f, f < 6 → S1.1 53 f = z_fs z1 f) : mi z1 J S1 := by
  obtain ⟨h0, h1, h2r, h3, h4, h5, h6, h7, h8, h9⟩ := h
  obtain ⟨a1, a2, a3, a4, a5, a6, a7, a8⟩ := z
  obtain ⟨b1, b2, b3, b4, b5, b6, b7, b8⟩ := z1
  simp only [z_rs, z_rw, z_ts, z_tw, z_st, Prod.mk.injEq] at hq
  obtain ⟨q1, q2, q3, q4, q5, q6, q7⟩ := hq
  subst q1 q2 q3 q4 q6
  subst q5 q7
  exact ⟨⟨fun b hb => by
    rw [hb0 b (by omega), h2 b (by omega)]
    exact h0.1 b hb, by
    rw [h22]
    exact h0.2⟩, fun r hr => by
    rw [hb0 54 (by omega)]
    exact h1 r hr, fun r k hr hk => by
    rw [hb0 55 (by omega)]
    exact h2r r k hr hk, fun t ht => by
    rw [hb0 57 (by omega)]
    exact h3 t ht, fun t k ht hk => by
    rw [hb0 58 (by omega)]
    exact h4 t k ht hk, by
    rw [hb0 59 (by omega)]
    exact h5, by
    rw [hb0 60 (by omega), hb0 61 (by omega)]
    exact h6, by
    rw [h51 17 (by omega), hb0 63 (by omega)]
    exact h7, hp, by
    rw [h51 19 (by omega)]
    exact h9⟩
theorem mc_sc {z : zz} {J S S1 : sm_t} (h : mi z J S) (hb0 : ∀ b, b < 52 ∨ b = 53 ∨ b = 54 ∨ b = 55 ∨ 57 ≤ b ∧ b < 62 ∨ b = 63 → S1.1 b = S.1 b) (h51 : S1.1 52 0 = S.1 52 0 ∧ S1.1 52 2 = S.1 52 2 ∧ S1.1 52 17 = S.1 52 17 ∧ S1.1 52 19 = S.1 52 19) (h2 : ∀ b, b < 52 → S1.2.1 b = S.2.1 b) (h23 : S1.2.1 52 3 = S.2.1 52 3 ∧ S1.2.1 52 4 = S.2.1 52 4) (h22 : S1.2.2 = S.2.2) : mi z J S1 := by
  obtain ⟨h0, h1, h2r, h3, h4, h5, h6, h7, h8, h9⟩ := h
  exact ⟨⟨fun b hb => by
    rw [hb0 b (by omega), h2 b (by omega)]
    exact h0.1 b hb, by
    rw [h22]
    exact h0.2⟩, fun r hr => by
    rw [hb0 54 (by omega)]
    exact h1 r hr, fun r k hr hk => by
    rw [hb0 55 (by omega)]
    exact h2r r k hr hk, fun t ht => by
    rw [hb0 57 (by omega)]
    exact h3 t ht, fun t k ht hk => by
    rw [hb0 58 (by omega)]
    exact h4 t k ht hk, by
    rw [hb0 59 (by omega)]
    exact h5, by
    rw [hb0 60 (by omega), hb0 61 (by omega)]
    exact h6, by
    rw [h51.2.2.1, hb0 63 (by omega)]
    exact h7, by
    rw [h51.1, h51.2.1, hb0 53 (by omega), h23.1, h23.2]
    exact h8, by
    rw [h51.2.2.2]
    exact h9⟩
