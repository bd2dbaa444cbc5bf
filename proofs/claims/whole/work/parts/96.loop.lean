theorem lw_v46 {v : Int32} (n0 : ¬ v = 0) (n1 : ¬ v = 1) (n2 : ¬ v = 2) (n3 : ¬ v = 3) (n4 : ¬ v = 4) (n5 : ¬ v = 5) (n6 : ¬ v = 6) (n7 : ¬ v = 7) (n8 : ¬ v = 8) (n9 : ¬ v = 9) (n10 : ¬ v = 10) (n11 : ¬ v = 11) (n12 : ¬ v = 12) (n13 : ¬ v = 13) (n14 : ¬ v = 14) (n15 : ¬ v = 15) (n16 : ¬ v = 16) (n17 : ¬ v = 17) (n18 : ¬ v = 18) (n19 : ¬ v = 19) (n20 : ¬ v = 20) (n21 : ¬ v = 21) (n22 : ¬ v = 22) (n23 : ¬ v = 23) (n24 : ¬ v = 24) (n25 : ¬ v = 25) (n26 : ¬ v = 26) (n27 : ¬ v = 27) (n28 : ¬ v = 28) (n29 : ¬ v = 29) (n30 : ¬ v = 30) (n31 : ¬ v = 31) (n32 : ¬ v = 32) (n33 : ¬ v = 33) (n34 : ¬ v = 34) (n35 : ¬ v = 35) (n36 : ¬ v = 36) (n37 : ¬ v = 37) (n38 : ¬ v = 38) (n39 : ¬ v = 39) (n40 : ¬ v = 40) (n41 : ¬ v = 41) (n42 : ¬ v = 42) (n43 : ¬ v = 43) (n44 : ¬ v = 44) (n45 : ¬ v = 45) : ¬ ¬ (v < 0 ∨ 45 < v) := fun h => by
  obtain ⟨k, hk, rfl⟩ := lw_vk h
  exact match k, hk with
  | 0, _ => n0 rfl
  | 1, _ => n1 rfl
  | 2, _ => n2 rfl
  | 3, _ => n3 rfl
  | 4, _ => n4 rfl
  | 5, _ => n5 rfl
  | 6, _ => n6 rfl
  | 7, _ => n7 rfl
  | 8, _ => n8 rfl
  | 9, _ => n9 rfl
  | 10, _ => n10 rfl
  | 11, _ => n11 rfl
  | 12, _ => n12 rfl
  | 13, _ => n13 rfl
  | 14, _ => n14 rfl
  | 15, _ => n15 rfl
  | 16, _ => n16 rfl
  | 17, _ => n17 rfl
  | 18, _ => n18 rfl
  | 19, _ => n19 rfl
  | 20, _ => n20 rfl
  | 21, _ => n21 rfl
  | 22, _ => n22 rfl
  | 23, _ => n23 rfl
  | 24, _ => n24 rfl
  | 25, _ => n25 rfl
  | 26, _ => n26 rfl
  | 27, _ => n27 rfl
  | 28, _ => n28 rfl
  | 29, _ => n29 rfl
  | 30, _ => n30 rfl
  | 31, _ => n31 rfl
  | 32, _ => n32 rfl
  | 33, _ => n33 rfl
  | 34, _ => n34 rfl
  | 35, _ => n35 rfl
  | 36, _ => n36 rfl
  | 37, _ => n37 rfl
  | 38, _ => n38 rfl
  | 39, _ => n39 rfl
  | 40, _ => n40 rfl
  | 41, _ => n41 rfl
  | 42, _ => n42 rfl
  | 43, _ => n43 rfl
  | 44, _ => n44 rfl
  | 45, _ => n45 rfl
  | k + 46, h => absurd h (by omega)
set_option maxHeartbeats 4000000 in
set_option maxRecDepth 20000 in
theorem lw_loop {F N : Nat} {xs : Nat → Int32} (hF : 100000 < F ∧ F < 2147483648) (hN : N ≤ 3072) : ∀ (f i : Nat) (S : sm_t), i ≤ N → N < i + 6 * f → li xs S → ∃ S' : sm_t, xL_law_18 F N f (nI i) S = some (1, S') := by
  intro f
  induction f with
  | zero => intro i S h1 h2 _; omega
  | succ f ih =>
    intro i S hi hf hI
    rw [xL_law_18]
    by_cases c0 : N < i + 6
    · rw [if_pos (lw_c0 hN hi c0)]
      exact ⟨S, rfl⟩
    · rw [if_neg (lw_c1 hN hi c0)]
      have hc : ∀ T : sm_t, li xs T → ∃ S' : sm_t, xL_law_18 F N f (nI i + 6) T = some (1, S') := fun T hT => by
        rw [show nI i + 6 = nI (i + 6) from nI_add i 6]
        exact ih (i + 6) T (by omega) (by omega) hT
      have h1 : sm_ix (nI i + 1) N = true := lw_ix hN (k := 1) (by omega)
      have h2 : sm_ix (nI i + 2) N = true := lw_ix hN (k := 2) (by omega)
      have h3 : sm_ix (nI i + 3) N = true := lw_ix hN (k := 3) (by omega)
      have h4 : sm_ix (nI i + 4) N = true := lw_ix hN (k := 4) (by omega)
      have h5 : sm_ix (nI i + 5) N = true := lw_ix hN (k := 5) (by omega)
      rw [tt_rd (show i < N by omega) (by omega), tt_n]
      generalize (S.1 2 i &&& 63 : Int32) = v
      by_cases cv : v < 0 ∨ 45 < v
      · rw [if_pos cv]
        exact hc S hI
      · rw [if_neg cv]
        by_cases n0 : v = 0
        · rw [if_pos n0]
          exact lo_row hF h1 h2 h3 h4 h5 hI hc
        rw [if_neg n0]
        by_cases n1 : v = 1
        · rw [if_pos n1]
          exact lo_lay hF h1 h2 h3 h4 h5 hI hc
        rw [if_neg n1]
        by_cases n2 : v = 2
        · rw [if_pos n2]
          exact lo_at hF h1 h2 h3 h4 h5 hI hc
        rw [if_neg n2]
        by_cases n3 : v = 3
        · rw [if_pos n3]
          exact lo_tear hF h1 h2 h3 h4 h5 hI hc
        rw [if_neg n3]
        by_cases n4 : v = 4
        · rw [if_pos n4]
          exact lo_copy hF h1 h2 h3 h4 h5 hI hc
        rw [if_neg n4]
        by_cases n5 : v = 5
        · rw [if_pos n5]
          exact lo_mean hF h1 h2 h3 h4 h5 hI hc
        rw [if_neg n5]
        by_cases n6 : v = 6
        · rw [if_pos n6]
          exact lo_text hF h1 h2 h3 h4 h5 hI hc
        rw [if_neg n6]
        by_cases n7 : v = 7
        · rw [if_pos n7]
          exact lo_put hF h1 h2 h3 h4 h5 hI hc
        rw [if_neg n7]
        by_cases n8 : v = 8
        · rw [if_pos n8]
          exact lo_flight hF h1 h2 h3 h4 h5 hI hc
        rw [if_neg n8]
        by_cases n9 : v = 9
        · rw [if_pos n9]
          exact lo_ends hF h1 h2 h3 h4 h5 hI hc
        rw [if_neg n9]
        by_cases n10 : v = 10
        · rw [if_pos n10]
          exact lo_course hF h1 h2 h3 h4 h5 hI hc
        rw [if_neg n10]
        by_cases n11 : v = 11
        · rw [if_pos n11]
          exact lo_plan hF h1 h2 h3 h4 h5 hI hc
        rw [if_neg n11]
        by_cases n12 : v = 12
        · rw [if_pos n12]
          exact lo_fault hF h1 h2 h3 h4 h5 hI hc
        rw [if_neg n12]
        by_cases n13 : v = 13
        · rw [if_pos n13]
          exact lo_story hF h1 h2 h3 h4 h5 hI hc
        rw [if_neg n13]
        by_cases n14 : v = 14
        · rw [if_pos n14]
          exact lo_lies hF h1 h2 h3 h4 h5 hI hc
        rw [if_neg n14]
        by_cases n15 : v = 15
        · rw [if_pos n15]
          exact lo_far hF h1 h2 h3 h4 h5 hI hc
        rw [if_neg n15]
        by_cases n16 : v = 16
        · rw [if_pos n16]
          exact lo_sign hF h1 h2 h3 h4 h5 hI hc
        rw [if_neg n16]
        by_cases n17 : v = 17
        · rw [if_pos n17]
          exact lo_signs hF h1 h2 h3 h4 h5 hI hc
        rw [if_neg n17]
        by_cases n18 : v = 18
        · rw [if_pos n18]
          exact lo_undo hF h1 h2 h3 h4 h5 hI hc
        rw [if_neg n18]
        by_cases n19 : v = 19
        · rw [if_pos n19]
          exact lo_told hF h1 h2 h3 h4 h5 hI hc
        rw [if_neg n19]
        by_cases n20 : v = 20
        · rw [if_pos n20]
          exact lo_mark hF h1 h2 h3 h4 h5 hI hc
        rw [if_neg n20]
        by_cases n21 : v = 21
        · rw [if_pos n21]
          exact lo_weighs hF h1 h2 h3 h4 h5 hI hc
        rw [if_neg n21]
        by_cases n22 : v = 22
        · rw [if_pos n22]
          exact lo_near hF h1 h2 h3 h4 h5 hI hc
        rw [if_neg n22]
        by_cases n23 : v = 23
        · rw [if_pos n23]
          exact lo_where hF h1 h2 h3 h4 h5 hI hc
        rw [if_neg n23]
        by_cases n24 : v = 24
        · rw [if_pos n24]
          exact lo_most hF h1 h2 h3 h4 h5 hI hc
        rw [if_neg n24]
        by_cases n25 : v = 25
        · rw [if_pos n25]
          exact lo_sure hF h1 h2 h3 h4 h5 hI hc
        rw [if_neg n25]
        by_cases n26 : v = 26
        · rw [if_pos n26]
          exact lo_hour hF h1 h2 h3 h4 h5 hI hc
        rw [if_neg n26]
        by_cases n27 : v = 27
        · rw [if_pos n27]
          exact lo_ended hF h1 h2 h3 h4 h5 hI hc
        rw [if_neg n27]
        by_cases n28 : v = 28
        · rw [if_pos n28]
          exact lo_falls hF h1 h2 h3 h4 h5 hI hc
        rw [if_neg n28]
        by_cases n29 : v = 29
        · rw [if_pos n29]
          exact lo_turns hF h1 h2 h3 h4 h5 hI hc
        rw [if_neg n29]
        by_cases n30 : v = 30
        · rw [if_pos n30]
          exact lo_truly hF h1 h2 h3 h4 h5 hI hc
        rw [if_neg n30]
        by_cases n31 : v = 31
        · rw [if_pos n31]
          exact lo_cross hF h1 h2 h3 h4 h5 hI hc
        rw [if_neg n31]
        by_cases n32 : v = 32
        · rw [if_pos n32]
          exact lo_likelier hF h1 h2 h3 h4 h5 hI hc
        rw [if_neg n32]
        by_cases n33 : v = 33
        · rw [if_pos n33]
          exact lo_line hF h1 h2 h3 h4 h5 hI hc
        rw [if_neg n33]
        by_cases n34 : v = 34
        · rw [if_pos n34]
          exact lo_drag hF h1 h2 h3 h4 h5 hI hc
        rw [if_neg n34]
        by_cases n35 : v = 35
        · rw [if_pos n35]
          exact lo_brought hF h1 h2 h3 h4 h5 hI hc
        rw [if_neg n35]
        by_cases n36 : v = 36
        · rw [if_pos n36]
          exact lo_draw hF h1 h2 h3 h4 h5 hI hc
        rw [if_neg n36]
        by_cases n37 : v = 37
        · rw [if_pos n37]
          exact lo_image hF h1 h2 h3 h4 h5 hI hc
        rw [if_neg n37]
        by_cases n38 : v = 38
        · rw [if_pos n38]
          exact lo_on hF h1 h2 h3 h4 h5 hI hc
        rw [if_neg n38]
        by_cases n39 : v = 39
        · rw [if_pos n39]
          exact lo_asked hF h1 h2 h3 h4 h5 hI hc
        rw [if_neg n39]
        by_cases n40 : v = 40
        · rw [if_pos n40]
          exact lo_upper hF h1 h2 h3 h4 h5 hI hc
        rw [if_neg n40]
        by_cases n41 : v = 41
        · rw [if_pos n41]
          exact lo_lower hF h1 h2 h3 h4 h5 hI hc
        rw [if_neg n41]
        by_cases n42 : v = 42
        · rw [if_pos n42]
          exact lo_count hF h1 h2 h3 h4 h5 hI hc
        rw [if_neg n42]
        by_cases n43 : v = 43
        · rw [if_pos n43]
          exact lo_finding hF h1 h2 h3 h4 h5 hI hc
        rw [if_neg n43]
        by_cases n44 : v = 44
        · rw [if_pos n44]
          exact lo_findings hF h1 h2 h3 h4 h5 hI hc
        rw [if_neg n44]
        by_cases n45 : v = 45
        · rw [if_pos n45]
          exact lo_digest hF h1 h2 h3 h4 h5 hI hc
        rw [if_neg n45]
        exact absurd cv (lw_v46 n0 n1 n2 n3 n4 n5 n6 n7 n8 n9 n10 n11 n12 n13 n14 n15 n16 n17 n18 n19 n20 n21 n22 n23 n24 n25 n26 n27 n28 n29 n30 n31 n32 n33 n34 n35 n36 n37 n38 n39 n40 n41 n42 n43 n44 n45)
