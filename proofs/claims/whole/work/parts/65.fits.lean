/-! ===== sign ===== -/
theorem fk_1 {F : Nat} (a b c : Int32) : (∀ S, x6_fits F (nI 1) a b c S = some (0, S) ∧ x8_isGood F (nI 1) a b c S = some (0, S)) ∨ ∃ an bn cn : Nat, an < 7 ∧ bn < 120 ∧ cn < 6 ∧ a = nI an ∧ b = nI bn ∧ c = nI cn ∧ ∀ S, x6_fits F (nI 1) a b c S = some (1, S) ∧ x8_isGood F (nI 1) a b c S = some (1, S) := by
  rcases tt_below a 7 (by omega) with ⟨a, ha, rfl⟩ | h
  · skip
    rcases tt_below b 120 (by omega) with ⟨b, hb, rfl⟩ | h
    · skip
      rcases tt_below c 6 (by omega) with ⟨c, hc, rfl⟩ | h
      · refine Or.inr ⟨a, b, c, ha, hb, hc, rfl, rfl, rfl, fun S => ⟨?_, ?_⟩⟩
        · unfold x6_fits
          rw [if_neg (by decide), if_neg (by decide), if_pos (by decide), (show x7_isWithin F (nI a) 6 S = some (1, S) from x_wi1 (b := 6) (by omega) (by omega)), tt_cI, if_neg (by decide), x_cell1 hb, tt_cI, if_neg (by decide), (show x7_isWithin F (nI c) 5 S = some (1, S) from x_wi1 (b := 5) (by omega) (by omega)), tt_cI, if_neg (by decide)]
        · unfold x8_isGood
          rw [if_neg (by decide), if_neg (by decide), if_pos (by decide), (show x8_in F (nI a) 0 6 S = some (1, S) from m_in1 (b := 6) (by omega) (by omega)), tt_cI, if_neg (by decide), m_cell1 hb, tt_cI, if_neg (by decide), (show x8_in F (nI c) 0 5 S = some (1, S) from m_in1 (b := 5) (by omega) (by omega)), tt_cI, if_neg (by decide)]
      · refine Or.inl (fun S => ⟨?_, ?_⟩)
        · unfold x6_fits
          rw [if_neg (by decide), if_neg (by decide), if_pos (by decide), (show x7_isWithin F (nI a) 6 S = some (1, S) from x_wi1 (b := 6) (by omega) (by omega)), tt_cI, if_neg (by decide), x_cell1 hb, tt_cI, if_neg (by decide), (show x7_isWithin F c 5 S = some (0, S) from x_wiN (b := 5) (by omega) (by omega))]
          rfl
        · unfold x8_isGood
          rw [if_neg (by decide), if_neg (by decide), if_pos (by decide), (show x8_in F (nI a) 0 6 S = some (1, S) from m_in1 (b := 6) (by omega) (by omega)), tt_cI, if_neg (by decide), m_cell1 hb, tt_cI, if_neg (by decide), (show x8_in F c 0 5 S = some (0, S) from m_inN (b := 5) (by omega) (by omega))]
          rfl
    · refine Or.inl (fun S => ⟨?_, ?_⟩)
      · unfold x6_fits
        rw [if_neg (by decide), if_neg (by decide), if_pos (by decide), (show x7_isWithin F (nI a) 6 S = some (1, S) from x_wi1 (b := 6) (by omega) (by omega)), tt_cI, if_neg (by decide), x_cell0 h]
        rfl
      · unfold x8_isGood
        rw [if_neg (by decide), if_neg (by decide), if_pos (by decide), (show x8_in F (nI a) 0 6 S = some (1, S) from m_in1 (b := 6) (by omega) (by omega)), tt_cI, if_neg (by decide), m_cell0 h]
        rfl
  · refine Or.inl (fun S => ⟨?_, ?_⟩)
    · unfold x6_fits
      rw [if_neg (by decide), if_neg (by decide), if_pos (by decide), (show x7_isWithin F a 6 S = some (0, S) from x_wiN (b := 6) (by omega) (by omega))]
      rfl
    · unfold x8_isGood
      rw [if_neg (by decide), if_neg (by decide), if_pos (by decide), (show x8_in F a 0 6 S = some (0, S) from m_inN (b := 6) (by omega) (by omega))]
      rfl
theorem fk_2 {F : Nat} (a b c : Int32) : (∀ S, x6_fits F (nI 2) a b c S = some (0, S) ∧ x8_isGood F (nI 2) a b c S = some (0, S)) ∨ ∃ an bn cn : Nat, an < 7 ∧ bn < 120 ∧ cn < 6 ∧ a = nI an ∧ b = nI bn ∧ c = nI cn ∧ ∀ S, x6_fits F (nI 2) a b c S = some (1, S) ∧ x8_isGood F (nI 2) a b c S = some (1, S) := by
  rcases tt_below a 7 (by omega) with ⟨a, ha, rfl⟩ | h
  · skip
    rcases tt_below b 120 (by omega) with ⟨b, hb, rfl⟩ | h
    · skip
      rcases tt_below c 6 (by omega) with ⟨c, hc, rfl⟩ | h
      · refine Or.inr ⟨a, b, c, ha, hb, hc, rfl, rfl, rfl, fun S => ⟨?_, ?_⟩⟩
        · unfold x6_fits
          rw [if_neg (by decide), if_neg (by decide), if_neg (by decide), if_pos (by decide), (show x7_isWithin F (nI a) 6 S = some (1, S) from x_wi1 (b := 6) (by omega) (by omega)), tt_cI, if_neg (by decide), x_cell1 hb, tt_cI, if_neg (by decide), (show x7_isWithin F (nI c) 5 S = some (1, S) from x_wi1 (b := 5) (by omega) (by omega)), tt_cI, if_neg (by decide)]
        · unfold x8_isGood
          rw [if_neg (by decide), if_neg (by decide), if_neg (by decide), if_pos (by decide), (show x8_in F (nI a) 0 6 S = some (1, S) from m_in1 (b := 6) (by omega) (by omega)), tt_cI, if_neg (by decide), m_cell1 hb, tt_cI, if_neg (by decide), (show x8_in F (nI c) 0 5 S = some (1, S) from m_in1 (b := 5) (by omega) (by omega)), tt_cI, if_neg (by decide)]
      · refine Or.inl (fun S => ⟨?_, ?_⟩)
        · unfold x6_fits
          rw [if_neg (by decide), if_neg (by decide), if_neg (by decide), if_pos (by decide), (show x7_isWithin F (nI a) 6 S = some (1, S) from x_wi1 (b := 6) (by omega) (by omega)), tt_cI, if_neg (by decide), x_cell1 hb, tt_cI, if_neg (by decide), (show x7_isWithin F c 5 S = some (0, S) from x_wiN (b := 5) (by omega) (by omega))]
          rfl
        · unfold x8_isGood
          rw [if_neg (by decide), if_neg (by decide), if_neg (by decide), if_pos (by decide), (show x8_in F (nI a) 0 6 S = some (1, S) from m_in1 (b := 6) (by omega) (by omega)), tt_cI, if_neg (by decide), m_cell1 hb, tt_cI, if_neg (by decide), (show x8_in F c 0 5 S = some (0, S) from m_inN (b := 5) (by omega) (by omega))]
          rfl
    · refine Or.inl (fun S => ⟨?_, ?_⟩)
      · unfold x6_fits
        rw [if_neg (by decide), if_neg (by decide), if_neg (by decide), if_pos (by decide), (show x7_isWithin F (nI a) 6 S = some (1, S) from x_wi1 (b := 6) (by omega) (by omega)), tt_cI, if_neg (by decide), x_cell0 h]
        rfl
      · unfold x8_isGood
        rw [if_neg (by decide), if_neg (by decide), if_neg (by decide), if_pos (by decide), (show x8_in F (nI a) 0 6 S = some (1, S) from m_in1 (b := 6) (by omega) (by omega)), tt_cI, if_neg (by decide), m_cell0 h]
        rfl
  · refine Or.inl (fun S => ⟨?_, ?_⟩)
    · unfold x6_fits
      rw [if_neg (by decide), if_neg (by decide), if_neg (by decide), if_pos (by decide), (show x7_isWithin F a 6 S = some (0, S) from x_wiN (b := 6) (by omega) (by omega))]
      rfl
    · unfold x8_isGood
      rw [if_neg (by decide), if_neg (by decide), if_neg (by decide), if_pos (by decide), (show x8_in F a 0 6 S = some (0, S) from m_inN (b := 6) (by omega) (by omega))]
      rfl
theorem fk_4 {F : Nat} (a b c : Int32) : (∀ S, x6_fits F (nI 4) a b c S = some (0, S) ∧ x8_isGood F (nI 4) a b c S = some (0, S)) ∨ ∃ an bn cn : Nat, an < 120 ∧ bn < 120 ∧ cn < 13 ∧ a = nI an ∧ b = nI bn ∧ c = nI cn ∧ ∀ S, x6_fits F (nI 4) a b c S = some (1, S) ∧ x8_isGood F (nI 4) a b c S = some (1, S) := by
  rcases tt_below a 120 (by omega) with ⟨a, ha, rfl⟩ | h
  · skip
    rcases tt_below b 120 (by omega) with ⟨b, hb, rfl⟩ | h
    · skip
      rcases tt_below c 13 (by omega) with ⟨c, hc, rfl⟩ | h
      · refine Or.inr ⟨a, b, c, ha, hb, hc, rfl, rfl, rfl, fun S => ⟨?_, ?_⟩⟩
        · unfold x6_fits
          rw [if_neg (by decide), if_neg (by decide), if_neg (by decide), if_neg (by decide), if_neg (by decide), if_pos (by decide), x_cell1 ha, tt_cI, if_neg (by decide), x_cell1 hb, tt_cI, if_neg (by decide), (show x7_isWithin F (nI c) 12 S = some (1, S) from x_wi1 (b := 12) (by omega) (by omega)), tt_cI, if_neg (by decide)]
        · unfold x8_isGood
          rw [if_neg (by decide), if_neg (by decide), if_neg (by decide), if_neg (by decide), if_neg (by decide), if_pos (by decide), m_cell1 ha, tt_cI, if_neg (by decide), m_cell1 hb, tt_cI, if_neg (by decide), (show x8_in F (nI c) 0 12 S = some (1, S) from m_in1 (b := 12) (by omega) (by omega)), tt_cI, if_neg (by decide)]
      · refine Or.inl (fun S => ⟨?_, ?_⟩)
        · unfold x6_fits
          rw [if_neg (by decide), if_neg (by decide), if_neg (by decide), if_neg (by decide), if_neg (by decide), if_pos (by decide), x_cell1 ha, tt_cI, if_neg (by decide), x_cell1 hb, tt_cI, if_neg (by decide), (show x7_isWithin F c 12 S = some (0, S) from x_wiN (b := 12) (by omega) (by omega))]
          rfl
        · unfold x8_isGood
          rw [if_neg (by decide), if_neg (by decide), if_neg (by decide), if_neg (by decide), if_neg (by decide), if_pos (by decide), m_cell1 ha, tt_cI, if_neg (by decide), m_cell1 hb, tt_cI, if_neg (by decide), (show x8_in F c 0 12 S = some (0, S) from m_inN (b := 12) (by omega) (by omega))]
          rfl
    · refine Or.inl (fun S => ⟨?_, ?_⟩)
      · unfold x6_fits
        rw [if_neg (by decide), if_neg (by decide), if_neg (by decide), if_neg (by decide), if_neg (by decide), if_pos (by decide), x_cell1 ha, tt_cI, if_neg (by decide), x_cell0 h]
        rfl
      · unfold x8_isGood
        rw [if_neg (by decide), if_neg (by decide), if_neg (by decide), if_neg (by decide), if_neg (by decide), if_pos (by decide), m_cell1 ha, tt_cI, if_neg (by decide), m_cell0 h]
        rfl
  · refine Or.inl (fun S => ⟨?_, ?_⟩)
    · unfold x6_fits
      rw [if_neg (by decide), if_neg (by decide), if_neg (by decide), if_neg (by decide), if_neg (by decide), if_pos (by decide), x_cell0 h]
      rfl
    · unfold x8_isGood
      rw [if_neg (by decide), if_neg (by decide), if_neg (by decide), if_neg (by decide), if_neg (by decide), if_pos (by decide), m_cell0 h]
      rfl
theorem fk_5 {F : Nat} (a b c : Int32) : (∀ S, x6_fits F (nI 5) a b c S = some (0, S) ∧ x8_isGood F (nI 5) a b c S = some (0, S)) ∨ ∃ an bn cn : Nat, an < 120 ∧ bn < 8 ∧ cn < 13 ∧ a = nI an ∧ b = nI bn ∧ c = nI cn ∧ ∀ S, x6_fits F (nI 5) a b c S = some (1, S) ∧ x8_isGood F (nI 5) a b c S = some (1, S) := by
  rcases tt_below a 120 (by omega) with ⟨a, ha, rfl⟩ | h
  · skip
    rcases tt_below b 8 (by omega) with ⟨b, hb, rfl⟩ | h
    · skip
      rcases tt_below c 13 (by omega) with ⟨c, hc, rfl⟩ | h
      · refine Or.inr ⟨a, b, c, ha, hb, hc, rfl, rfl, rfl, fun S => ⟨?_, ?_⟩⟩
        · unfold x6_fits
          rw [if_neg (by decide), if_neg (by decide), if_neg (by decide), if_neg (by decide), if_neg (by decide), if_neg (by decide), if_pos (by decide), x_cell1 ha, tt_cI, if_neg (by decide), x_side1 hb, tt_cI, if_neg (by decide), (show x7_isWithin F (nI c) 12 S = some (1, S) from x_wi1 (b := 12) (by omega) (by omega)), tt_cI, if_neg (by decide)]
        · unfold x8_isGood
          rw [if_neg (by decide), if_neg (by decide), if_neg (by decide), if_neg (by decide), if_neg (by decide), if_neg (by decide), if_pos (by decide), m_cell1 ha, tt_cI, if_neg (by decide), m_side1 hb, tt_cI, if_neg (by decide), (show x8_in F (nI c) 0 12 S = some (1, S) from m_in1 (b := 12) (by omega) (by omega)), tt_cI, if_neg (by decide)]
      · refine Or.inl (fun S => ⟨?_, ?_⟩)
        · unfold x6_fits
          rw [if_neg (by decide), if_neg (by decide), if_neg (by decide), if_neg (by decide), if_neg (by decide), if_neg (by decide), if_pos (by decide), x_cell1 ha, tt_cI, if_neg (by decide), x_side1 hb, tt_cI, if_neg (by decide), (show x7_isWithin F c 12 S = some (0, S) from x_wiN (b := 12) (by omega) (by omega))]
          rfl
        · unfold x8_isGood
          rw [if_neg (by decide), if_neg (by decide), if_neg (by decide), if_neg (by decide), if_neg (by decide), if_neg (by decide), if_pos (by decide), m_cell1 ha, tt_cI, if_neg (by decide), m_side1 hb, tt_cI, if_neg (by decide), (show x8_in F c 0 12 S = some (0, S) from m_inN (b := 12) (by omega) (by omega))]
          rfl
    · refine Or.inl (fun S => ⟨?_, ?_⟩)
      · unfold x6_fits
        rw [if_neg (by decide), if_neg (by decide), if_neg (by decide), if_neg (by decide), if_neg (by decide), if_neg (by decide), if_pos (by decide), x_cell1 ha, tt_cI, if_neg (by decide), x_side0 h]
        rfl
      · unfold x8_isGood
        rw [if_neg (by decide), if_neg (by decide), if_neg (by decide), if_neg (by decide), if_neg (by decide), if_neg (by decide), if_pos (by decide), m_cell1 ha, tt_cI, if_neg (by decide), m_side0 h]
        rfl
  · refine Or.inl (fun S => ⟨?_, ?_⟩)
    · unfold x6_fits
      rw [if_neg (by decide), if_neg (by decide), if_neg (by decide), if_neg (by decide), if_neg (by decide), if_neg (by decide), if_pos (by decide), x_cell0 h]
      rfl
    · unfold x8_isGood
      rw [if_neg (by decide), if_neg (by decide), if_neg (by decide), if_neg (by decide), if_neg (by decide), if_neg (by decide), if_pos (by decide), m_cell0 h]
      rfl
theorem fk_6 {F : Nat} (a b c : Int32) : (∀ S, x6_fits F (nI 6) a b c S = some (0, S) ∧ x8_isGood F (nI 6) a b c S = some (0, S)) ∨ ∃ an bn cn : Nat, an < 120 ∧ bn < 8 ∧ cn < 13 ∧ a = nI an ∧ b = nI bn ∧ c = nI cn ∧ ∀ S, x6_fits F (nI 6) a b c S = some (1, S) ∧ x8_isGood F (nI 6) a b c S = some (1, S) := by
  rcases tt_below a 120 (by omega) with ⟨a, ha, rfl⟩ | h
  · skip
    rcases tt_below b 8 (by omega) with ⟨b, hb, rfl⟩ | h
    · skip
      rcases tt_below c 13 (by omega) with ⟨c, hc, rfl⟩ | h
      · refine Or.inr ⟨a, b, c, ha, hb, hc, rfl, rfl, rfl, fun S => ⟨?_, ?_⟩⟩
        · unfold x6_fits
          rw [if_neg (by decide), if_neg (by decide), if_neg (by decide), if_neg (by decide), if_neg (by decide), if_neg (by decide), if_neg (by decide), if_pos (by decide), x_cell1 ha, tt_cI, if_neg (by decide), x_side1 hb, tt_cI, if_neg (by decide), (show x7_isWithin F (nI c) 12 S = some (1, S) from x_wi1 (b := 12) (by omega) (by omega)), tt_cI, if_neg (by decide)]
        · unfold x8_isGood
          rw [if_neg (by decide), if_neg (by decide), if_neg (by decide), if_neg (by decide), if_neg (by decide), if_neg (by decide), if_neg (by decide), if_pos (by decide), m_cell1 ha, tt_cI, if_neg (by decide), m_side1 hb, tt_cI, if_neg (by decide), (show x8_in F (nI c) 0 12 S = some (1, S) from m_in1 (b := 12) (by omega) (by omega)), tt_cI, if_neg (by decide)]
      · refine Or.inl (fun S => ⟨?_, ?_⟩)
        · unfold x6_fits
          rw [if_neg (by decide), if_neg (by decide), if_neg (by decide), if_neg (by decide), if_neg (by decide), if_neg (by decide), if_neg (by decide), if_pos (by decide), x_cell1 ha, tt_cI, if_neg (by decide), x_side1 hb, tt_cI, if_neg (by decide), (show x7_isWithin F c 12 S = some (0, S) from x_wiN (b := 12) (by omega) (by omega))]
          rfl
        · unfold x8_isGood
          rw [if_neg (by decide), if_neg (by decide), if_neg (by decide), if_neg (by decide), if_neg (by decide), if_neg (by decide), if_neg (by decide), if_pos (by decide), m_cell1 ha, tt_cI, if_neg (by decide), m_side1 hb, tt_cI, if_neg (by decide), (show x8_in F c 0 12 S = some (0, S) from m_inN (b := 12) (by omega) (by omega))]
          rfl
    · refine Or.inl (fun S => ⟨?_, ?_⟩)
      · unfold x6_fits
        rw [if_neg (by decide), if_neg (by decide), if_neg (by decide), if_neg (by decide), if_neg (by decide), if_neg (by decide), if_neg (by decide), if_pos (by decide), x_cell1 ha, tt_cI, if_neg (by decide), x_side0 h]
        rfl
      · unfold x8_isGood
        rw [if_neg (by decide), if_neg (by decide), if_neg (by decide), if_neg (by decide), if_neg (by decide), if_neg (by decide), if_neg (by decide), if_pos (by decide), m_cell1 ha, tt_cI, if_neg (by decide), m_side0 h]
        rfl
  · refine Or.inl (fun S => ⟨?_, ?_⟩)
    · unfold x6_fits
      rw [if_neg (by decide), if_neg (by decide), if_neg (by decide), if_neg (by decide), if_neg (by decide), if_neg (by decide), if_neg (by decide), if_pos (by decide), x_cell0 h]
      rfl
    · unfold x8_isGood
      rw [if_neg (by decide), if_neg (by decide), if_neg (by decide), if_neg (by decide), if_neg (by decide), if_neg (by decide), if_neg (by decide), if_pos (by decide), m_cell0 h]
      rfl
theorem fk_7 {F : Nat} (a b c : Int32) : (∀ S, x6_fits F (nI 7) a b c S = some (0, S) ∧ x8_isGood F (nI 7) a b c S = some (0, S)) ∨ ∃ an bn cn : Nat, an < 120 ∧ bn < 10 ∧ cn < 13 ∧ a = nI an ∧ b = nI bn ∧ c = nI cn ∧ ∀ S, x6_fits F (nI 7) a b c S = some (1, S) ∧ x8_isGood F (nI 7) a b c S = some (1, S) := by
  rcases tt_below a 120 (by omega) with ⟨a, ha, rfl⟩ | h
  · skip
    rcases tt_below b 10 (by omega) with ⟨b, hb, rfl⟩ | h
    · skip
      rcases tt_below c 13 (by omega) with ⟨c, hc, rfl⟩ | h
      · refine Or.inr ⟨a, b, c, ha, hb, hc, rfl, rfl, rfl, fun S => ⟨?_, ?_⟩⟩
        · unfold x6_fits
          rw [if_neg (by decide), if_neg (by decide), if_neg (by decide), if_neg (by decide), if_neg (by decide), if_neg (by decide), if_neg (by decide), if_neg (by decide), if_pos (by decide), x_cell1 ha, tt_cI, if_neg (by decide), (show x7_isWithin F (nI b) 9 S = some (1, S) from x_wi1 (b := 9) (by omega) (by omega)), tt_cI, if_neg (by decide), (show x7_isWithin F (nI c) 12 S = some (1, S) from x_wi1 (b := 12) (by omega) (by omega)), tt_cI, if_neg (by decide)]
        · unfold x8_isGood
          rw [if_neg (by decide), if_neg (by decide), if_neg (by decide), if_neg (by decide), if_neg (by decide), if_neg (by decide), if_neg (by decide), if_neg (by decide), if_pos (by decide), m_cell1 ha, tt_cI, if_neg (by decide), (show x8_in F (nI b) 0 9 S = some (1, S) from m_in1 (b := 9) (by omega) (by omega)), tt_cI, if_neg (by decide), (show x8_in F (nI c) 0 12 S = some (1, S) from m_in1 (b := 12) (by omega) (by omega)), tt_cI, if_neg (by decide)]
      · refine Or.inl (fun S => ⟨?_, ?_⟩)
        · unfold x6_fits
          rw [if_neg (by decide), if_neg (by decide), if_neg (by decide), if_neg (by decide), if_neg (by decide), if_neg (by decide), if_neg (by decide), if_neg (by decide), if_pos (by decide), x_cell1 ha, tt_cI, if_neg (by decide), (show x7_isWithin F (nI b) 9 S = some (1, S) from x_wi1 (b := 9) (by omega) (by omega)), tt_cI, if_neg (by decide), (show x7_isWithin F c 12 S = some (0, S) from x_wiN (b := 12) (by omega) (by omega))]
          rfl
        · unfold x8_isGood
          rw [if_neg (by decide), if_neg (by decide), if_neg (by decide), if_neg (by decide), if_neg (by decide), if_neg (by decide), if_neg (by decide), if_neg (by decide), if_pos (by decide), m_cell1 ha, tt_cI, if_neg (by decide), (show x8_in F (nI b) 0 9 S = some (1, S) from m_in1 (b := 9) (by omega) (by omega)), tt_cI, if_neg (by decide), (show x8_in F c 0 12 S = some (0, S) from m_inN (b := 12) (by omega) (by omega))]
          rfl
    · refine Or.inl (fun S => ⟨?_, ?_⟩)
      · unfold x6_fits
        rw [if_neg (by decide), if_neg (by decide), if_neg (by decide), if_neg (by decide), if_neg (by decide), if_neg (by decide), if_neg (by decide), if_neg (by decide), if_pos (by decide), x_cell1 ha, tt_cI, if_neg (by decide), (show x7_isWithin F b 9 S = some (0, S) from x_wiN (b := 9) (by omega) (by omega))]
        rfl
      · unfold x8_isGood
        rw [if_neg (by decide), if_neg (by decide), if_neg (by decide), if_neg (by decide), if_neg (by decide), if_neg (by decide), if_neg (by decide), if_neg (by decide), if_pos (by decide), m_cell1 ha, tt_cI, if_neg (by decide), (show x8_in F b 0 9 S = some (0, S) from m_inN (b := 9) (by omega) (by omega))]
        rfl
  · refine Or.inl (fun S => ⟨?_, ?_⟩)
    · unfold x6_fits
      rw [if_neg (by decide), if_neg (by decide), if_neg (by decide), if_neg (by decide), if_neg (by decide), if_neg (by decide), if_neg (by decide), if_neg (by decide), if_pos (by decide), x_cell0 h]
      rfl
    · unfold x8_isGood
      rw [if_neg (by decide), if_neg (by decide), if_neg (by decide), if_neg (by decide), if_neg (by decide), if_neg (by decide), if_neg (by decide), if_neg (by decide), if_pos (by decide), m_cell0 h]
      rfl
theorem fk_3 {F : Nat} (a b c : Int32) : (∀ S, x6_fits F (nI 3) a b c S = some (0, S) ∧ x8_isGood F (nI 3) a b c S = some (0, S)) ∨ ∃ an : Nat, an < 7 ∧ a = nI an ∧ ∀ S, x6_fits F (nI 3) a b c S = some (1, S) ∧ x8_isGood F (nI 3) a b c S = some (1, S) := by
  rcases tt_below a 7 (by omega) with ⟨a, ha, rfl⟩ | h
  · refine Or.inr ⟨a, ha, rfl, fun S => ⟨?_, ?_⟩⟩
    · unfold x6_fits
      rw [if_neg (by decide), if_neg (by decide), if_neg (by decide), if_neg (by decide), if_pos (by decide), (show x7_isWithin F (nI a) 6 S = some (1, S) from x_wi1 (b := 6) (by omega) (by omega))]
      rfl
    · unfold x8_isGood
      rw [if_neg (by decide), if_neg (by decide), if_neg (by decide), if_neg (by decide), if_pos (by decide), (show x8_in F (nI a) 0 6 S = some (1, S) from m_in1 (b := 6) (by omega) (by omega))]
      rfl
  · refine Or.inl (fun S => ⟨?_, ?_⟩)
    · unfold x6_fits
      rw [if_neg (by decide), if_neg (by decide), if_neg (by decide), if_neg (by decide), if_pos (by decide), (show x7_isWithin F a 6 S = some (0, S) from x_wiN (b := 6) (by omega) (by omega))]
      rfl
    · unfold x8_isGood
      rw [if_neg (by decide), if_neg (by decide), if_neg (by decide), if_neg (by decide), if_pos (by decide), (show x8_in F a 0 6 S = some (0, S) from m_inN (b := 6) (by omega) (by omega))]
      rfl
/-- a sign that is good, as numbers -/
def fz (k a b c : Int32) (kn an bn cn : Nat) : Prop := k = nI kn ∧ kn < 8 ∧ (if kn = 0 then 0 else a) = nI an ∧ (if kn = 0 ∨ kn = 3 then 0 else b) = nI bn ∧ (if kn = 0 ∨ kn = 3 then 0 else c) = nI cn ∧ zw_sg kn an bn cn 0
theorem b_fit {F : Nat} (k a b c : Int32) : (∀ S, x6_fits F k a b c S = some (0, S) ∧ x8_isGood F k a b c S = some (0, S)) ∨ ∃ kn an bn cn : Nat, fz k a b c kn an bn cn ∧ ∀ S, x6_fits F k a b c S = some (1, S) ∧ x8_isGood F k a b c S = some (1, S) := by
  rcases tt_below k 8 (by omega) with ⟨k, hk, rfl⟩ | h
  · rcases (show k = 0 ∨ k = 1 ∨ k = 2 ∨ k = 3 ∨ k = 4 ∨ k = 5 ∨ k = 6 ∨ k = 7 by omega) with rfl | rfl | rfl | rfl | rfl | rfl | rfl | rfl
    · refine Or.inr ⟨0, 0, 0, 0, ⟨rfl, by omega, rfl, rfl, rfl, by omega, Or.inl ⟨rfl, rfl, rfl, rfl⟩⟩, fun S => ⟨?_, ?_⟩⟩
      · unfold x6_fits
        rw [if_neg (by decide), if_pos (by decide)]
      · unfold x8_isGood
        rw [if_neg (by decide), if_pos (by decide)]
    · rcases fk_1 (F := F) a b c with h | ⟨an, bn, cn, h1, h2, h3, rfl, rfl, rfl, h⟩
      · exact Or.inl h
      · exact Or.inr ⟨1, an, bn, cn, ⟨rfl, by omega, rfl, rfl, rfl, by omega, by omega⟩, h⟩
    · rcases fk_2 (F := F) a b c with h | ⟨an, bn, cn, h1, h2, h3, rfl, rfl, rfl, h⟩
      · exact Or.inl h
      · exact Or.inr ⟨2, an, bn, cn, ⟨rfl, by omega, rfl, rfl, rfl, by omega, by omega⟩, h⟩
    · rcases fk_3 (F := F) a b c with h | ⟨an, h1, rfl, h⟩
      · exact Or.inl h
      · exact Or.inr ⟨3, an, 0, 0, ⟨rfl, by omega, rfl, rfl, rfl, by omega, by omega⟩, h⟩
    · rcases fk_4 (F := F) a b c with h | ⟨an, bn, cn, h1, h2, h3, rfl, rfl, rfl, h⟩
      · exact Or.inl h
      · exact Or.inr ⟨4, an, bn, cn, ⟨rfl, by omega, rfl, rfl, rfl, by omega, by omega⟩, h⟩
    · rcases fk_5 (F := F) a b c with h | ⟨an, bn, cn, h1, h2, h3, rfl, rfl, rfl, h⟩
      · exact Or.inl h
      · exact Or.inr ⟨5, an, bn, cn, ⟨rfl, by omega, rfl, rfl, rfl, by omega, by omega⟩, h⟩
    · rcases fk_6 (F := F) a b c with h | ⟨an, bn, cn, h1, h2, h3, rfl, rfl, rfl, h⟩
      · exact Or.inl h
      · exact Or.inr ⟨6, an, bn, cn, ⟨rfl, by omega, rfl, rfl, rfl, by omega, by omega⟩, h⟩
    · rcases fk_7 (F := F) a b c with h | ⟨an, bn, cn, h1, h2, h3, rfl, rfl, rfl, h⟩
      · exact Or.inl h
      · exact Or.inr ⟨7, an, bn, cn, ⟨rfl, by omega, rfl, rfl, rfl, by omega, by omega⟩, h⟩
  · refine Or.inl (fun S => ⟨?_, ?_⟩)
    · unfold x6_fits
      rw [if_pos]
      rw [tt_lt, tt_lt]
      simp only [Int32.reduceToInt]
      omega
    · unfold x8_isGood
      rw [if_pos]
      rw [tt_lt, tt_lt]
      simp only [Int32.reduceToInt]
      omega
