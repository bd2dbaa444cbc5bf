def x7_isRow (F : Nat) (l0 : Int32) (S : sm_t) : Option (Int32 × sm_t) :=
  if l0 < 0 then (
    some (0, S)
  ) else (
    if 6 ≤ l0 then (
      some (0, S)
    ) else (
      some (1, S)
    )
  )
def x7_found (F : Nat) (l1 : Int32) (S : sm_t) : Option (Int32 × sm_t) :=
  sm_n (sm_wI S 3 14 l1) fun S =>
  sm_rd (S.1 51) 6 l1 fun v1 =>
  sm_wr S 51 6 l1 (v1 + 1) fun S =>
  some ((-3), S)
def xA_fillI_5 (F : Nat) : Nat → Nat → Int32 → Int32 → Int32 → sm_t → Option (sm_t)
  | 0, _, _, _, _, _ => none
  | f + 1, l0, l1, l2, l3, S => if l3 ≤ l2 then (
      some S
    ) else (
      sm_an (.int) l0 fun n2 =>
      sm_wr S l0 n2 l2 l1 fun S =>
      xA_fillI_5 F f l0 l1 (l2 + 1) l3 S
    )
def xA_fillI (F : Nat) (l0 : Nat) (l1 : Int32) (S : sm_t) : Option (sm_t) :=
  sm_an (.int) l0 fun n2 =>
  sm_n (Int32.ofNat n2 : Int32) fun v3 =>
  xA_fillI_5 F F l0 l1 0 v3 S
def x7_renew (F : Nat) (l1 : Int32) (l2 : Int32) (S : sm_t) : Option (sm_t) :=
  sm_wr S 11 6 l1 l2 fun S =>
  sm_rd (fun i => 5 + i) 6 l1 fun a1 =>
  sm_cV (xA_fillI F a1 0 S) fun S =>
  some S
def x7_row (F : Nat) (l1 : Int32) (l2 : Int32) (S : sm_t) : Option (Int32 × sm_t) :=
  sm_cI (x7_isRow F l1 S) fun v1 S =>
  if v1 = 0 then (
    some ((-1), S)
  ) else (
    if l2 ≤ 40 then (
      if 0 ≤ l2 then (
        sm_cV (x7_renew F l1 l2 S) fun S =>
        some (l2, S)
      ) else (
        sm_cI (x7_found F 5 S) fun v3 S =>
        some (v3, S)
      )
    ) else (
      some ((-1), S)
    )
  )
def x8_in (F : Nat) (l0 : Int32) (l1 : Int32) (l2 : Int32) (S : sm_t) : Option (Int32 × sm_t) :=
  if l0 < l1 then (
    some (0, S)
  ) else (
    if l2 < l0 then (
      some (0, S)
    ) else (
      some (1, S)
    )
  )
def x8_isRow (F : Nat) (l0 : Int32) (S : sm_t) : Option (Int32 × sm_t) :=
  sm_cI (x8_in F l0 0 5 S) fun v1 S =>
  sm_rz v1 S
def x8_meets (F : Nat) (l1 : Int32) (S : sm_t) : Option (Int32 × sm_t) :=
  sm_n (sm_wI S 52 0 l1) fun S =>
  sm_rd (S.1 53) 6 l1 fun v1 =>
  sm_wr S 53 6 l1 (v1 + 1) fun S =>
  some ((-3), S)
def x8_row_34 (F : Nat) : Nat → Int32 → Int32 → Int32 → sm_t → Option (Int32 × sm_t)
  | 0, _, _, _, _ => none
  | f + 1, l1, l2, l3, S => if 40 ≤ l3 then (
      some (l2, S)
    ) else (
      sm_wr S 55 240 ((40 * l1) + l3) 0 fun S =>
      x8_row_34 F f l1 l2 (l3 + 1) S
    )
def x8_row (F : Nat) (l1 : Int32) (l2 : Int32) (S : sm_t) : Option (Int32 × sm_t) :=
  sm_cI (x8_isRow F l1 S) fun v1 S =>
  if v1 = 0 then (
    some ((-1), S)
  ) else (
    if l2 ≤ 40 then (
      if 0 ≤ l2 then (
        sm_wr S 54 6 l1 l2 fun S =>
        x8_row_34 F F l1 l2 0 S
      ) else (
        sm_cI (x8_meets F 5 S) fun v2 S =>
        some (v2, S)
      )
    ) else (
      some ((-1), S)
    )
  )
def x7_barredPlace (F : Nat) (l1 : Int32) (l2 : Int32) (S : sm_t) : Option (Int32 × sm_t) :=
  sm_cI (x7_isRow F l1 S) fun v1 S =>
  if v1 = 0 then (
    some ((-1), S)
  ) else (
    sm_rd (S.1 11) 6 l1 fun v2 =>
    if v2 = (-1) then (
      sm_cI (x7_found F 1 S) fun v3 S =>
      some (v3, S)
    ) else (
      if l2 < 0 then (
        sm_cI (x7_found F 2 S) fun v4 S =>
        some (v4, S)
      ) else (
        sm_rd (S.1 11) 6 l1 fun v5 =>
        if l2 < v5 then (
          some (0, S)
        ) else (
          sm_cI (x7_found F 2 S) fun v6 S =>
          some (v6, S)
        )
      )
    )
  )
def x7_lay (F : Nat) (l1 : Int32) (l2 : Int32) (l3 : Int32) (S : sm_t) : Option (Int32 × sm_t) :=
  sm_cI (x7_barredPlace F l1 l2 S) fun v1 S =>
  if v1 = 0 then (
    sm_rd (fun i => 5 + i) 6 l1 fun a2 =>
    sm_an (.int) a2 fun n4 =>
    sm_rd (S.1 a2) n4 l2 fun v5 =>
    sm_n (sm_wI S 3 11 v5) fun S =>
    sm_rd (fun i => 5 + i) 6 l1 fun a6 =>
    sm_an (.int) a6 fun n8 =>
    sm_wr S a6 n8 l2 l3 fun S =>
    some (1, S)
  ) else (
    some (v1, S)
  )
def x8_askedRow (F : Nat) (l1 : Int32) (S : sm_t) : Option (Int32 × sm_t) :=
  sm_cI (x8_isRow F l1 S) fun v1 S =>
  if v1 = 0 then (
    some ((-1), S)
  ) else (
    sm_rd (S.1 54) 6 l1 fun v2 =>
    if 0 ≤ v2 then (
      some (0, S)
    ) else (
      sm_cI (x8_meets F 1 S) fun v3 S =>
      some (v3, S)
    )
  )
def x8_rowAt (F : Nat) (l1 : Int32) (l2 : Int32) (S : sm_t) : Option (Int32 × sm_t) :=
  sm_rd (S.1 55) 240 ((40 * l1) + l2) fun v1 =>
  some (v1, S)
def x8_ask (F : Nat) (l1 : Int32) (l2 : Int32) (S : sm_t) : Option (Int32 × sm_t) :=
  sm_n (sm_wI S 52 2 l1) fun S =>
  some (l2, S)
def x8_at (F : Nat) (l1 : Int32) (l2 : Int32) (S : sm_t) : Option (Int32 × sm_t) :=
  sm_cI (x8_askedRow F l1 S) fun v1 S =>
  if 0 ≤ v1 then (
    sm_rd (S.1 54) 6 l1 fun v2 =>
    sm_cI (x8_in F l2 0 (v2 - 1) S) fun v3 S =>
    if v3 = 0 then (
      sm_cI (x8_meets F 2 S) fun v4 S =>
      some (v4, S)
    ) else (
      sm_cI (x8_rowAt F l1 l2 S) fun v5 S =>
      sm_cI (x8_ask F v5 1 S) fun v6 S =>
      some (v6, S)
    )
  ) else (
    some (v1, S)
  )
def x8_lay (F : Nat) (l1 : Int32) (l2 : Int32) (l3 : Int32) (S : sm_t) : Option (Int32 × sm_t) :=
  sm_cI (x8_at F l1 l2 S) fun v1 S =>
  if 0 ≤ v1 then (
    sm_wr S 55 240 ((40 * l1) + l2) l3 fun S =>
    some (1, S)
  ) else (
    some (v1, S)
  )
def x7_at (F : Nat) (l1 : Int32) (l2 : Int32) (S : sm_t) : Option (Int32 × sm_t) :=
  sm_cI (x7_barredPlace F l1 l2 S) fun v1 S =>
  if v1 = 0 then (
    sm_rd (fun i => 5 + i) 6 l1 fun a2 =>
    sm_an (.int) a2 fun n4 =>
    sm_rd (S.1 a2) n4 l2 fun v5 =>
    sm_n (sm_wI S 3 11 v5) fun S =>
    some (1, S)
  ) else (
    some (v1, S)
  )
def x7_tear (F : Nat) (l1 : Int32) (S : sm_t) : Option (Int32 × sm_t) :=
  sm_cI (x7_isRow F l1 S) fun v1 S =>
  if v1 = 0 then (
    some ((-1), S)
  ) else (
    sm_rd (S.1 11) 6 l1 fun v2 =>
    if v2 = (-1) then (
      sm_cI (x7_found F 1 S) fun v3 S =>
      some (v3, S)
    ) else (
      sm_wr S 11 6 l1 (-1) fun S =>
      some (1, S)
    )
  )
def x8_tear (F : Nat) (l1 : Int32) (S : sm_t) : Option (Int32 × sm_t) :=
  sm_cI (x8_askedRow F l1 S) fun v1 S =>
  if 0 ≤ v1 then (
    sm_wr S 54 6 l1 (-9) fun S =>
    some (1, S)
  ) else (
    some (v1, S)
  )
def x7_holds (F : Nat) (l0 : Int32) (l1 : Int32) (l2 : Int32) (S : sm_t) : Option (Int32 × sm_t) :=
  if l1 < 0 then (
    some (0, S)
  ) else (
    if l0 < l1 then (
      some (0, S)
    ) else (
      if l0 - l1 < l2 then (
        some (0, S)
      ) else (
        some (1, S)
      )
    )
  )
def x7_copy (F : Nat) (l1 : Int32) (l2 : Int32) (l3 : Int32) (l4 : Int32) (l5 : Int32) (S : sm_t) : Option (Int32 × sm_t) :=
  sm_cI (x7_isRow F l1 S) fun v1 S =>
  if v1 = 0 then (
    some ((-1), S)
  ) else (
    sm_cI (x7_isRow F l3 S) fun v2 S =>
    if v2 = 0 then (
      some ((-1), S)
    ) else (
      if 0 ≤ l5 then (
        sm_rd (S.1 11) 6 l1 fun v3 =>
        if v3 = (-1) then (
          sm_cI (x7_found F 1 S) fun v4 S =>
          some (v4, S)
        ) else (
          sm_rd (S.1 11) 6 l3 fun v5 =>
          if v5 = (-1) then (
            sm_cI (x7_found F 1 S) fun v6 S =>
            some (v6, S)
          ) else (
            sm_rd (S.1 11) 6 l1 fun v7 =>
            sm_cI (x7_holds F v7 l2 l5 S) fun v8 S =>
            if v8 = 0 then (
              sm_cI (x7_found F 2 S) fun v9 S =>
              some (v9, S)
            ) else (
              sm_rd (S.1 11) 6 l3 fun v10 =>
              sm_cI (x7_holds F v10 l4 l5 S) fun v11 S =>
              if v11 = 0 then (
                sm_cI (x7_found F 2 S) fun v12 S =>
                some (v12, S)
              ) else (
                sm_rd (fun i => 5 + i) 6 l1 fun a13 =>
                sm_rd (fun i => 5 + i) 6 l3 fun a14 =>
                sm_an (.int) a13 fun n16 =>
                sm_an (.int) a14 fun n18 =>
                sm_cp S a13 n16 a14 n18 l2 l4 l5 fun S =>
                some (1, S)
              )
            )
          )
        )
      ) else (
        sm_cI (x7_found F 5 S) fun v19 S =>
        some (v19, S)
      )
    )
  )
def x8_copy_136 (F : Nat) : Nat → Int32 → Int32 → Int32 → Int32 → sm_t → Option (Int32 × sm_t)
  | 0, _, _, _, _, _ => none
  | f + 1, l3, l4, l5, l6, S => if l5 ≤ l6 then (
      some (1, S)
    ) else (
      sm_rd (S.1 56) 40 l6 fun v1 =>
      sm_wr S 55 240 (((40 * l3) + l4) + l6) v1 fun S =>
      x8_copy_136 F f l3 l4 l5 (l6 + 1) S
    )
def x8_copy_104 (F : Nat) : Nat → Int32 → Int32 → Int32 → Int32 → Int32 → Int32 → sm_t → Option (Int32 × sm_t)
  | 0, _, _, _, _, _, _, _ => none
  | f + 1, l1, l2, l3, l4, l5, l6, S => if l5 ≤ l6 then (
      x8_copy_136 F F l3 l4 l5 0 S
    ) else (
      sm_cI (x8_rowAt F l1 (l2 + l6) S) fun v1 S =>
      sm_wr S 56 40 l6 v1 fun S =>
      x8_copy_104 F f l1 l2 l3 l4 l5 (l6 + 1) S
    )
def x8_copy (F : Nat) (l1 : Int32) (l2 : Int32) (l3 : Int32) (l4 : Int32) (l5 : Int32) (S : sm_t) : Option (Int32 × sm_t) :=
  sm_cI (x8_isRow F l1 S) fun v1 S =>
  if v1 = 0 then (
    some ((-1), S)
  ) else (
    sm_cI (x8_isRow F l3 S) fun v2 S =>
    if v2 = 0 then (
      some ((-1), S)
    ) else (
      if 0 ≤ l5 then (
        sm_rd (S.1 54) 6 l1 fun v3 =>
        if v3 < 0 then (
          sm_cI (x8_meets F 1 S) fun v4 S =>
          some (v4, S)
        ) else (
          sm_rd (S.1 54) 6 l3 fun v5 =>
          if 0 ≤ v5 then (
            if l2 < 0 then (
              sm_cI (x8_meets F 2 S) fun v6 S =>
              some (v6, S)
            ) else (
              if l4 < 0 then (
                sm_cI (x8_meets F 2 S) fun v7 S =>
                some (v7, S)
              ) else (
                sm_rd (S.1 54) 6 l1 fun v8 =>
                if v8.toInt64 < (l2.toInt64) + (l5.toInt64) then (
                  sm_cI (x8_meets F 2 S) fun v9 S =>
                  some (v9, S)
                ) else (
                  sm_rd (S.1 54) 6 l3 fun v10 =>
                  if (l4.toInt64) + (l5.toInt64) ≤ v10.toInt64 then (
                    x8_copy_104 F F l1 l2 l3 l4 l5 0 S
                  ) else (
                    sm_cI (x8_meets F 2 S) fun v11 S =>
                    some (v11, S)
                  )
                )
              )
            )
          ) else (
            sm_cI (x8_meets F 1 S) fun v12 S =>
            some (v12, S)
          )
        )
      ) else (
        sm_cI (x8_meets F 5 S) fun v13 S =>
        some (v13, S)
      )
    )
  )
def x7_mean_67 (F : Nat) (l2 : Int32) (l3 : Int64) (S : sm_t) : Option (Int32 × sm_t) :=
  if l2.toInt64 = 0 then none else
  sm_n (sm_wI S 3 11 ((l3 / (l2.toInt64)).toInt32)) fun S =>
  some (1, S)
def x7_mean_42 (F : Nat) : Nat → Int32 → Int32 → Int64 → Int32 → sm_t → Option (Int32 × sm_t)
  | 0, _, _, _, _, _ => none
  | f + 1, l1, l2, l3, l5, S => if l2 ≤ l5 then (
      x7_mean_67 F l2 l3 S
    ) else (
      sm_rd (fun i => 5 + i) 6 l1 fun a1 =>
      sm_an (.int) a1 fun n3 =>
      sm_rd (S.1 a1) n3 l5 fun v4 =>
      sm_n (l3 + (v4.toInt64) : Int64) fun v5 =>
      x7_mean_42 F f l1 l2 v5 (l5 + 1) S
    )
def x7_mean (F : Nat) (l1 : Int32) (S : sm_t) : Option (Int32 × sm_t) :=
  sm_cI (x7_isRow F l1 S) fun v1 S =>
  if v1 = 0 then (
    some ((-1), S)
  ) else (
    sm_rd (S.1 11) 6 l1 fun v2 =>
    if v2 = (-1) then (
      sm_cI (x7_found F 1 S) fun v3 S =>
      some (v3, S)
    ) else (
      if 0 < v2 then (
        x7_mean_42 F F l1 v2 0 0 S
      ) else (
        sm_cI (x7_found F 4 S) fun v4 S =>
        some (v4, S)
      )
    )
  )
def x8_mean_45 (F : Nat) (l1 : Int32) (l3 : Int64) (S : sm_t) : Option (Int32 × sm_t) :=
  sm_rd (S.1 54) 6 l1 fun v1 =>
  if v1 = 0 then (
    sm_cI (x8_meets F 4 S) fun v2 S =>
    some (v2, S)
  ) else (
    sm_rd (S.1 54) 6 l1 fun v3 =>
    if v3.toInt64 = 0 then none else
    sm_cI (x8_ask F ((l3 / (v3.toInt64)).toInt32) 1 S) fun v5 S =>
    some (v5, S)
  )
def x8_mean_17 (F : Nat) : Nat → Int32 → Int64 → Int32 → sm_t → Option (Int32 × sm_t)
  | 0, _, _, _, _ => none
  | f + 1, l1, l3, l5, S => sm_rd (S.1 54) 6 l1 fun v1 =>
    if v1 ≤ l5 then (
      x8_mean_45 F l1 l3 S
    ) else (
      sm_cI (x8_rowAt F l1 l5 S) fun v2 S =>
      sm_n (l3 + (v2.toInt64) : Int64) fun v3 =>
      x8_mean_17 F f l1 v3 (l5 + 1) S
    )
def x8_mean (F : Nat) (l1 : Int32) (S : sm_t) : Option (Int32 × sm_t) :=
  sm_cI (x8_askedRow F l1 S) fun v1 S =>
  if 0 ≤ v1 then (
    x8_mean_17 F F l1 0 0 S
  ) else (
    some (v1, S)
  )
def x7_isText (F : Nat) (l0 : Int32) (S : sm_t) : Option (Int32 × sm_t) :=
  if l0 < 0 then (
    some (0, S)
  ) else (
    if 4 ≤ l0 then (
      some (0, S)
    ) else (
      some (1, S)
    )
  )
def xA_fillB_5 (F : Nat) : Nat → Nat → Int32 → Int32 → Int32 → sm_t → Option (sm_t)
  | 0, _, _, _, _, _ => none
  | f + 1, l0, l1, l2, l3, S => if l3 ≤ l2 then (
      some S
    ) else (
      sm_an (.byte) l0 fun n2 =>
      sm_wr S l0 n2 l2 (vp_nar .byte l1) fun S =>
      xA_fillB_5 F f l0 l1 (l2 + 1) l3 S
    )
def xA_fillB (F : Nat) (l0 : Nat) (l1 : Int32) (S : sm_t) : Option (sm_t) :=
  sm_an (.byte) l0 fun n2 =>
  sm_n (Int32.ofNat n2 : Int32) fun v3 =>
  xA_fillB_5 F F l0 l1 0 v3 S
def x7_text (F : Nat) (l1 : Int32) (l2 : Int32) (S : sm_t) : Option (Int32 × sm_t) :=
  sm_cI (x7_isText F l1 S) fun v1 S =>
  if v1 = 0 then (
    some ((-1), S)
  ) else (
    if l2 ≤ 80 then (
      if 0 ≤ l2 then (
        sm_wr S 17 4 l1 l2 fun S =>
        sm_rd (fun i => 13 + i) 4 l1 fun a2 =>
        sm_cV (xA_fillB F a2 32 S) fun S =>
        some (l2, S)
      ) else (
        sm_cI (x7_found F 5 S) fun v4 S =>
        some (v4, S)
      )
    ) else (
      some ((-1), S)
    )
  )
def x8_isText (F : Nat) (l0 : Int32) (S : sm_t) : Option (Int32 × sm_t) :=
  sm_cI (x8_in F l0 0 3 S) fun v1 S =>
  sm_rz v1 S
def x8_text_34 (F : Nat) : Nat → Int32 → Int32 → Int32 → sm_t → Option (Int32 × sm_t)
  | 0, _, _, _, _ => none
  | f + 1, l1, l2, l3, S => if 80 ≤ l3 then (
      some (l2, S)
    ) else (
      sm_wr S 58 320 ((80 * l1) + l3) 32 fun S =>
      x8_text_34 F f l1 l2 (l3 + 1) S
    )
def x8_text (F : Nat) (l1 : Int32) (l2 : Int32) (S : sm_t) : Option (Int32 × sm_t) :=
  sm_cI (x8_isText F l1 S) fun v1 S =>
  if v1 = 0 then (
    some ((-1), S)
  ) else (
    if l2 ≤ 80 then (
      if 0 ≤ l2 then (
        sm_wr S 57 4 l1 l2 fun S =>
        x8_text_34 F F l1 l2 0 S
      ) else (
        sm_cI (x8_meets F 5 S) fun v2 S =>
        some (v2, S)
      )
    ) else (
      some ((-1), S)
    )
  )
def x7_put (F : Nat) (l1 : Int32) (l2 : Int32) (l3 : Int32) (S : sm_t) : Option (Int32 × sm_t) :=
  sm_cI (x7_isText F l1 S) fun v1 S =>
  if v1 = 0 then (
    some ((-1), S)
  ) else (
    sm_rd (S.1 17) 4 l1 fun v2 =>
    if v2 = (-1) then (
      sm_cI (x7_found F 1 S) fun v3 S =>
      some (v3, S)
    ) else (
      if l2 < 0 then (
        sm_cI (x7_found F 2 S) fun v4 S =>
        some (v4, S)
      ) else (
        sm_rd (S.1 17) 4 l1 fun v5 =>
        if l2 < v5 then (
          sm_rd (fun i => 13 + i) 4 l1 fun a6 =>
          sm_an (.byte) a6 fun n8 =>
          sm_rd (S.1 a6) n8 l2 fun v9 =>
          sm_rd (fun i => 13 + i) 4 l1 fun a10 =>
          sm_an (.byte) a10 fun n12 =>
          sm_wr S a10 n12 l2 (vp_nar .byte (l3.toInt8.toInt32)) fun S =>
          some (v9 + 1000, S)
        ) else (
          sm_cI (x7_found F 2 S) fun v13 S =>
          some (v13, S)
        )
      )
    )
  )
def x8_askedText (F : Nat) (l1 : Int32) (S : sm_t) : Option (Int32 × sm_t) :=
  sm_cI (x8_isText F l1 S) fun v1 S =>
  if v1 = 0 then (
    some ((-1), S)
  ) else (
    sm_rd (S.1 57) 4 l1 fun v2 =>
    if 0 ≤ v2 then (
      some (0, S)
    ) else (
      sm_cI (x8_meets F 1 S) fun v3 S =>
      some (v3, S)
    )
  )
def x8_put (F : Nat) (l1 : Int32) (l2 : Int32) (l3 : Int32) (S : sm_t) : Option (Int32 × sm_t) :=
  sm_cI (x8_askedText F l1 S) fun v1 S =>
  if 0 ≤ v1 then (
    sm_rd (S.1 57) 4 l1 fun v2 =>
    sm_cI (x8_in F l2 0 (v2 - 1) S) fun v3 S =>
    if v3 = 0 then (
      sm_cI (x8_meets F 2 S) fun v4 S =>
      some (v4, S)
    ) else (
      sm_rd (S.1 58) 320 ((80 * l1) + l2) fun v5 =>
      sm_wr S 58 320 ((80 * l1) + l2) (l3.toInt8.toInt32) fun S =>
      some (v5 + 1000, S)
    )
  ) else (
    some (v1, S)
  )
def x1_isCell (F : Nat) (l0 : Int32) (S : sm_t) : Option (Int32 × sm_t) :=
  if l0 < 0 then (
    some (0, S)
  ) else (
    if 120 ≤ l0 then (
      some (0, S)
    ) else (
      some (1, S)
    )
  )
def x1_isSide (F : Nat) (l0 : Int32) (S : sm_t) : Option (Int32 × sm_t) :=
  if l0 < 0 then (
    some (0, S)
  ) else (
    if 8 ≤ l0 then (
      some (0, S)
    ) else (
      some (1, S)
    )
  )
def x3_begin (F : Nat) (l1 : Int32) (l2 : Nat) (l3 : Int32) (S : sm_t) : Option (sm_t) :=
  sm_n (sm_wI S 19 0 l1) fun S =>
  sm_n (sm_wI S 19 1 l3) fun S =>
  sm_an (.int) l2 fun n2 =>
  sm_cp S l2 n2 20 6 0 0 l3 fun S =>
  sm_cV (xA_fillI F 21 0 S) fun S =>
  sm_wr S 21 7 l3 1 fun S =>
  some S
def x7_flight_87 (F : Nat) (l1 : Int32) (l2 : Int32) (S : sm_t) : Option (Int32 × sm_t) :=
  sm_rd (fun i => 5 + i) 6 l2 fun a1 =>
  sm_rd (S.1 11) 6 l2 fun v2 =>
  sm_cV (x3_begin F l1 a1 v2 S) fun S =>
  sm_n (S.1 19 1) fun v4 =>
  some (v4, S)
def x7_flight_51 (F : Nat) : Nat → Int32 → Int32 → Int32 → sm_t → Option (Int32 × sm_t)
  | 0, _, _, _, _ => none
  | f + 1, l1, l2, l3, S => sm_rd (S.1 11) 6 l2 fun v1 =>
    if v1 ≤ l3 then (
      x7_flight_87 F l1 l2 S
    ) else (
      sm_rd (fun i => 5 + i) 6 l2 fun a2 =>
      sm_an (.int) a2 fun n4 =>
      sm_rd (S.1 a2) n4 l3 fun v5 =>
      sm_cI (x1_isSide F v5 S) fun v6 S =>
      if v6 = 0 then (
        sm_cI (x7_found F 3 S) fun v7 S =>
        some (v7, S)
      ) else (
        x7_flight_51 F f l1 l2 (l3 + 1) S
      )
    )
def x7_flight (F : Nat) (l1 : Int32) (l2 : Int32) (S : sm_t) : Option (Int32 × sm_t) :=
  sm_cI (x1_isCell F l1 S) fun v1 S =>
  if v1 = 0 then (
    some ((-1), S)
  ) else (
    sm_cI (x7_isRow F l2 S) fun v2 S =>
    if v2 = 0 then (
      some ((-1), S)
    ) else (
      sm_rd (S.1 11) 6 l2 fun v3 =>
      if v3 = (-1) then (
        sm_cI (x7_found F 1 S) fun v4 S =>
        some (v4, S)
      ) else (
        sm_rd (S.1 11) 6 l2 fun v5 =>
        if v5 ≤ 6 then (
          x7_flight_51 F F l1 l2 0 S
        ) else (
          sm_cI (x7_found F 5 S) fun v6 S =>
          some (v6, S)
        )
      )
    )
  )
def x8_isCell (F : Nat) (l0 : Int32) (S : sm_t) : Option (Int32 × sm_t) :=
  sm_cI (x8_in F l0 0 119 S) fun v1 S =>
  sm_rz v1 S
def x8_isSide (F : Nat) (l0 : Int32) (S : sm_t) : Option (Int32 × sm_t) :=
  sm_cI (x8_in F l0 0 7 S) fun v1 S =>
  sm_rz v1 S
def x8_flight_139 (F : Nat) : Nat → Int32 → Int32 → sm_t → Option (Int32 × sm_t)
  | 0, _, _, _ => none
  | f + 1, l4, l5, S => if 6 < l5 then (
      some (l4, S)
    ) else (
      if l5 ≤ l4 then (
        if l5 = l4 then (
          sm_wr S 59 15 (8 + l5) 1 fun S =>
          x8_flight_139 F f l4 (l5 + 1) S
        ) else (
          sm_wr S 59 15 (8 + l5) 0 fun S =>
          x8_flight_139 F f l4 (l5 + 1) S
        )
      ) else (
        sm_wr S 59 15 (8 + l5) (-9) fun S =>
        x8_flight_139 F f l4 (l5 + 1) S
      )
    )
def x8_flight_95 (F : Nat) : Nat → Int32 → Int32 → Int32 → sm_t → Option (Int32 × sm_t)
  | 0, _, _, _, _ => none
  | f + 1, l2, l4, l5, S => if 6 ≤ l5 then (
      x8_flight_139 F F l4 0 S
    ) else (
      if l4 ≤ l5 then (
        sm_wr S 59 15 (2 + l5) (-9) fun S =>
        x8_flight_95 F f l2 l4 (l5 + 1) S
      ) else (
        sm_cI (x8_rowAt F l2 l5 S) fun v1 S =>
        sm_wr S 59 15 (2 + l5) v1 fun S =>
        x8_flight_95 F f l2 l4 (l5 + 1) S
      )
    )
def x8_flight_77 (F : Nat) (l1 : Int32) (l2 : Int32) (l4 : Int32) (S : sm_t) : Option (Int32 × sm_t) :=
  sm_wr S 59 15 0 l1 fun S =>
  sm_wr S 59 15 1 l4 fun S =>
  x8_flight_95 F F l2 l4 0 S
def x8_flight_45 (F : Nat) : Nat → Int32 → Int32 → Int32 → Int32 → sm_t → Option (Int32 × sm_t)
  | 0, _, _, _, _, _ => none
  | f + 1, l1, l2, l4, l5, S => if l4 ≤ l5 then (
      x8_flight_77 F l1 l2 l4 S
    ) else (
      sm_cI (x8_rowAt F l2 l5 S) fun v1 S =>
      sm_cI (x8_isSide F v1 S) fun v2 S =>
      if v2 = 0 then (
        sm_cI (x8_meets F 3 S) fun v3 S =>
        some (v3, S)
      ) else (
        x8_flight_45 F f l1 l2 l4 (l5 + 1) S
      )
    )
def x8_flight (F : Nat) (l1 : Int32) (l2 : Int32) (S : sm_t) : Option (Int32 × sm_t) :=
  sm_cI (x8_isCell F l1 S) fun v1 S =>
  if v1 = 0 then (
    some ((-1), S)
  ) else (
    sm_cI (x8_askedRow F l2 S) fun v2 S =>
    if 0 ≤ v2 then (
      sm_rd (S.1 54) 6 l2 fun v3 =>
      if v3 ≤ 6 then (
        x8_flight_45 F F l1 l2 v3 0 S
      ) else (
        sm_cI (x8_meets F 5 S) fun v4 S =>
        some (v4, S)
      )
    ) else (
      some (v2, S)
    )
  )
def x7_isWithin (F : Nat) (l0 : Int32) (l1 : Int32) (S : sm_t) : Option (Int32 × sm_t) :=
  if l0 < 0 then (
    some (0, S)
  ) else (
    if l1 < l0 then (
      some (0, S)
    ) else (
      some (1, S)
    )
  )
def x7_ends_103 (F : Nat) (l1 : Int32) (l2 : Int32) (S : sm_t) : Option (Int32 × sm_t) :=
  if l2 = 0 then (
    sm_cI (x7_found F 4 S) fun v1 S =>
    some (v1, S)
  ) else (
    sm_rd (fun i => 5 + i) 6 l1 fun a2 =>
    sm_n (S.1 19 1) fun v3 =>
    sm_an (.int) a2 fun n5 =>
    sm_cp S a2 n5 21 7 0 0 (v3 + 1) fun S =>
    some (l2, S)
  )
def x7_ends_53 (F : Nat) : Nat → Int32 → Int32 → Int32 → sm_t → Option (Int32 × sm_t)
  | 0, _, _, _, _ => none
  | f + 1, l1, l2, l3, S => sm_n (S.1 19 1) fun v1 =>
    if v1 < l3 then (
      x7_ends_103 F l1 l2 S
    ) else (
      sm_rd (fun i => 5 + i) 6 l1 fun a2 =>
      sm_an (.int) a2 fun n4 =>
      sm_rd (S.1 a2) n4 l3 fun v5 =>
      sm_cI (x7_isWithin F v5 9 S) fun v6 S =>
      if v6 = 0 then (
        sm_cI (x7_found F 3 S) fun v7 S =>
        some (v7, S)
      ) else (
        sm_rd (fun i => 5 + i) 6 l1 fun a8 =>
        sm_an (.int) a8 fun n10 =>
        sm_rd (S.1 a8) n10 l3 fun v11 =>
        sm_n (l2 + v11 : Int32) fun v12 =>
        x7_ends_53 F f l1 v12 (l3 + 1) S
      )
    )
def x7_ends (F : Nat) (l1 : Int32) (S : sm_t) : Option (Int32 × sm_t) :=
  sm_cI (x7_isRow F l1 S) fun v1 S =>
  if v1 = 0 then (
    some ((-1), S)
  ) else (
    sm_rd (S.1 11) 6 l1 fun v2 =>
    if v2 = (-1) then (
      sm_cI (x7_found F 1 S) fun v3 S =>
      some (v3, S)
    ) else (
      sm_rd (S.1 11) 6 l1 fun v4 =>
      sm_n (S.1 19 1) fun v5 =>
      if v4 = v5 + 1 then (
        x7_ends_53 F F l1 0 0 S
      ) else (
        sm_cI (x7_found F 5 S) fun v6 S =>
        some (v6, S)
      )
    )
  )
def x8_hours (F : Nat) (S : sm_t) : Option (Int32 × sm_t) :=
  sm_rd (S.1 59) 15 1 fun v1 =>
  some (v1, S)
def x8_ends_100 (F : Nat) : Nat → Int32 → Int32 → Int32 → sm_t → Option (Int32 × sm_t)
  | 0, _, _, _, _ => none
  | f + 1, l1, l3, l4, S => sm_rd (S.1 54) 6 l1 fun v1 =>
    if v1 ≤ l4 then (
      some (l3, S)
    ) else (
      sm_cI (x8_rowAt F l1 l4 S) fun v2 S =>
      sm_wr S 59 15 (8 + l4) v2 fun S =>
      x8_ends_100 F f l1 l3 (l4 + 1) S
    )
def x8_ends_87 (F : Nat) (l1 : Int32) (l3 : Int32) (S : sm_t) : Option (Int32 × sm_t) :=
  if l3 = 0 then (
    sm_cI (x8_meets F 4 S) fun v1 S =>
    some (v1, S)
  ) else (
    x8_ends_100 F F l1 l3 0 S
  )
def x8_ends_38 (F : Nat) : Nat → Int32 → Int32 → Int32 → sm_t → Option (Int32 × sm_t)
  | 0, _, _, _, _ => none
  | f + 1, l1, l3, l4, S => sm_rd (S.1 54) 6 l1 fun v1 =>
    if v1 ≤ l4 then (
      x8_ends_87 F l1 l3 S
    ) else (
      sm_cI (x8_rowAt F l1 l4 S) fun v2 S =>
      sm_cI (x8_in F v2 0 9 S) fun v3 S =>
      if v3 = 0 then (
        sm_cI (x8_meets F 3 S) fun v4 S =>
        some (v4, S)
      ) else (
        sm_cI (x8_rowAt F l1 l4 S) fun v5 S =>
        sm_n (l3 + v5 : Int32) fun v6 =>
        x8_ends_38 F f l1 v6 (l4 + 1) S
      )
    )
def x8_ends (F : Nat) (l1 : Int32) (S : sm_t) : Option (Int32 × sm_t) :=
  sm_cI (x8_askedRow F l1 S) fun v1 S =>
  if 0 ≤ v1 then (
    sm_rd (S.1 54) 6 l1 fun v2 =>
    sm_cI (x8_hours F S) fun v3 S =>
    if v2 = v3 + 1 then (
      x8_ends_38 F F l1 0 0 S
    ) else (
      sm_cI (x8_meets F 5 S) fun v4 S =>
      some (v4, S)
    )
  ) else (
    some (v1, S)
  )
def x7_course (F : Nat) (l1 : Int32) (l2 : Int32) (S : sm_t) : Option (Int32 × sm_t) :=
  if l1 < 0 then (
    some ((-1), S)
  ) else (
    sm_n (S.1 19 1) fun v1 =>
    if v1 ≤ l1 then (
      some ((-1), S)
    ) else (
      sm_cI (x1_isSide F l2 S) fun v2 S =>
      if v2 = 0 then (
        some ((-1), S)
      ) else (
        sm_rd (S.1 20) 6 l1 fun v3 =>
        sm_wr S 20 6 l1 l2 fun S =>
        some (v3, S)
      )
    )
  )
def x8_courseOf (F : Nat) (l1 : Int32) (S : sm_t) : Option (Int32 × sm_t) :=
  sm_rd (S.1 59) 15 (2 + l1) fun v1 =>
  some (v1, S)
def x8_course (F : Nat) (l1 : Int32) (l2 : Int32) (S : sm_t) : Option (Int32 × sm_t) :=
  sm_cI (x8_hours F S) fun v1 S =>
  sm_cI (x8_in F l1 0 (v1 - 1) S) fun v2 S =>
  if v2 = 0 then (
    some ((-1), S)
  ) else (
    sm_cI (x8_isSide F l2 S) fun v3 S =>
    if v3 = 0 then (
      some ((-1), S)
    ) else (
      sm_cI (x8_courseOf F l1 S) fun v4 S =>
      sm_wr S 59 15 (2 + l1) l2 fun S =>
      some (v4, S)
    )
  )
def x3_number (F : Nat) (l1 : Int32) (S : sm_t) : Option (Int32 × sm_t) :=
  if l1 = 0 then (
    sm_n (S.1 19 0) fun v1 =>
    some (v1, S)
  ) else (
    if l1 = 1 then (
      sm_n (S.1 19 1) fun v2 =>
      some (v2, S)
    ) else (
      if 8 ≤ l1 then (
        sm_n (l1 - 8 : Int32) fun v3 =>
        sm_n (S.1 19 1) fun v4 =>
        if v4 < v3 then (
          some ((-9), S)
        ) else (
          sm_rd (S.1 21) 7 v3 fun v5 =>
          some (v5, S)
        )
      ) else (
        sm_n (l1 - 2 : Int32) fun v6 =>
        if v6 < 0 then (
          some ((-9), S)
        ) else (
          sm_n (S.1 19 1) fun v7 =>
          if v7 ≤ v6 then (
            some ((-9), S)
          ) else (
            sm_rd (S.1 20) 6 v6 fun v8 =>
            some (v8, S)
          )
        )
      )
    )
  )
def x7_plan (F : Nat) (l1 : Int32) (S : sm_t) : Option (Int32 × sm_t) :=
  sm_cI (x7_isWithin F l1 14 S) fun v1 S =>
  if v1 = 0 then (
    some ((-1), S)
  ) else (
    sm_cI (x3_number F l1 S) fun v2 S =>
    sm_n (sm_wI S 3 11 v2) fun S =>
    some (1, S)
  )
def x8_plan (F : Nat) (l1 : Int32) (S : sm_t) : Option (Int32 × sm_t) :=
  sm_cI (x8_in F l1 0 14 S) fun v1 S =>
  if v1 = 0 then (
    some ((-1), S)
  ) else (
    sm_rd (S.1 59) 15 l1 fun v2 =>
    sm_cI (x8_ask F v2 1 S) fun v3 S =>
    some (v3, S)
  )
def x4_skipBlanks_0 (F : Nat) : Nat → sm_t → Option (sm_t)
  | 0, _ => none
  | f + 1, S => sm_n (S.1 46 2) fun v1 =>
    sm_n (S.1 46 1) fun v2 =>
    if v2 ≤ v1 then (
      some S
    ) else (
      S.2.2.2.2.bind fun a3 =>
      sm_n (S.1 46 2) fun v4 =>
      sm_an (.byte) a3 fun n6 =>
      sm_rd (S.1 a3) n6 v4 fun v7 =>
      if v7 = 32 then (
        sm_n (S.1 46 2) fun v8 =>
        sm_n (sm_wI S 46 2 (v8 + 1)) fun S =>
        x4_skipBlanks_0 F f S
      ) else (
        some S
      )
    )
def x4_skipBlanks (F : Nat) (S : sm_t) : Option (sm_t) :=
  x4_skipBlanks_0 F F S
def x4_take (F : Nat) (l1 : Int32) (S : sm_t) : Option (sm_t) :=
  sm_n (S.1 46 3) fun v1 =>
  if v1 = (-9) then (
    sm_n (S.1 46 2) fun v2 =>
    sm_n (S.1 46 1) fun v3 =>
    if v3 ≤ v2 then (
      sm_n (S.1 46 3) fun v4 =>
      if v4 = (-9) then (
        sm_n (S.1 46 2) fun v5 =>
        sm_n (sm_wI S 46 3 v5) fun S =>
        some S
      ) else (
        some S
      )
    ) else (
      S.2.2.2.2.bind fun a6 =>
      sm_n (S.1 46 2) fun v7 =>
      sm_an (.byte) a6 fun n9 =>
      sm_rd (S.1 a6) n9 v7 fun v10 =>
      if v10 = l1 then (
        sm_n (S.1 46 2) fun v11 =>
        sm_n (sm_wI S 46 2 (v11 + 1)) fun S =>
        some S
      ) else (
        sm_n (S.1 46 3) fun v12 =>
        if v12 = (-9) then (
          sm_n (S.1 46 2) fun v13 =>
          sm_n (sm_wI S 46 3 v13) fun S =>
          some S
        ) else (
          some S
        )
      )
    )
  ) else (
    sm_n (S.1 46 3) fun v14 =>
    if v14 = (-9) then (
      sm_n (S.1 46 2) fun v15 =>
      sm_n (sm_wI S 46 3 v15) fun S =>
      some S
    ) else (
      some S
    )
  )
def x4_isFigure (F : Nat) (l1 : Int32) (S : sm_t) : Option (Int32 × sm_t) :=
  sm_n (S.1 46 2) fun v1 =>
  sm_n (S.1 46 1) fun v2 =>
  if v2 ≤ v1 then (
    some (0, S)
  ) else (
    S.2.2.2.2.bind fun a3 =>
    sm_n (S.1 46 2) fun v4 =>
    sm_an (.byte) a3 fun n6 =>
    sm_rd (S.1 a3) n6 v4 fun v7 =>
    if v7 < 48 then (
      some (0, S)
    ) else (
      S.2.2.2.2.bind fun a8 =>
      sm_n (S.1 46 2) fun v9 =>
      sm_an (.byte) a8 fun n11 =>
      sm_rd (S.1 a8) n11 v9 fun v12 =>
      if 48 + l1 < v12 then (
        some (0, S)
      ) else (
        some (1, S)
      )
    )
  )
def x4_takeFigure (F : Nat) (l1 : Int32) (S : sm_t) : Option (Int32 × sm_t) :=
  sm_n (S.1 46 3) fun v1 =>
  if v1 = (-9) then (
    sm_cI (x4_isFigure F l1 S) fun v2 S =>
    if v2 = 0 then (
      sm_n (S.1 46 3) fun v3 =>
      if v3 = (-9) then (
        sm_n (S.1 46 2) fun v4 =>
        sm_n (sm_wI S 46 3 v4) fun S =>
        some ((-9), S)
      ) else (
        some ((-9), S)
      )
    ) else (
      sm_n (S.1 46 2) fun v5 =>
      sm_n (sm_wI S 46 2 (v5 + 1)) fun S =>
      S.2.2.2.2.bind fun a6 =>
      sm_n (S.1 46 2) fun v7 =>
      sm_an (.byte) a6 fun n9 =>
      sm_rd (S.1 a6) n9 (v7 - 1) fun v10 =>
      some (v10 - 48, S)
    )
  ) else (
    sm_n (S.1 46 3) fun v11 =>
    if v11 = (-9) then (
      sm_n (S.1 46 2) fun v12 =>
      sm_n (sm_wI S 46 3 v12) fun S =>
      some ((-9), S)
    ) else (
      some ((-9), S)
    )
  )
def x4_takeNumber_9 (F : Nat) : Nat → Int32 → Int32 → Int32 → sm_t → Option (Int32 × sm_t)
  | 0, _, _, _, _ => none
  | f + 1, l1, l2, l3, S => if l1 ≤ l3 then (
      some (l2, S)
    ) else (
      sm_n (S.1 46 3) fun v1 =>
      if v1 = (-9) then (
        sm_cI (x4_isFigure F 9 S) fun v2 S =>
        if v2 = 0 then (
          some (l2, S)
        ) else (
          sm_cI (x4_takeFigure F 9 S) fun v3 S =>
          sm_n ((l2 * 10) + v3 : Int32) fun v4 =>
          x4_takeNumber_9 F f l1 v4 (l3 + 1) S
        )
      ) else (
        some (l2, S)
      )
    )
def x4_takeNumber (F : Nat) (l1 : Int32) (S : sm_t) : Option (Int32 × sm_t) :=
  sm_cI (x4_takeFigure F 9 S) fun v1 S =>
  x4_takeNumber_9 F F l1 v1 1 S
def x4_takeCell (F : Nat) (S : sm_t) : Option (Int32 × sm_t) :=
  sm_cI (x4_takeNumber F 3 S) fun v1 S =>
  sm_n (S.1 46 3) fun v2 =>
  if v2 = (-9) then (
    sm_cI (x1_isCell F v1 S) fun v3 S =>
    if v3 = 0 then (
      sm_n (S.1 46 2) fun v4 =>
      sm_n (sm_wI S 46 3 v4) fun S =>
      some (v1, S)
    ) else (
      some (v1, S)
    )
  ) else (
    some (v1, S)
  )
def x1_apart (F : Nat) (l0 : Int32) (l1 : Int32) (S : sm_t) : Option (Int32 × sm_t) :=
  sm_n (sm_ab ((sm_ir l1 12) - (sm_ir l0 12)) : Int32) fun v1 =>
  sm_n (sm_ab ((l1 / 12) - (l0 / 12)) : Int32) fun v2 =>
  some (sm_mx v1 v2, S)
def x4_readRound_33 (F : Nat) : Nat → Int32 → Int32 → Int32 → Int32 → sm_t → Option (sm_t)
  | 0, _, _, _, _, _ => none
  | f + 1, l1, l2, l3, l4, S => if 120 ≤ l4 then (
      some S
    ) else (
      sm_n (S.1 46 3) fun v1 =>
      if v1 = (-9) then (
        sm_cI (x1_apart F l1 l4 S) fun v2 S =>
        if l2 < v2 then (
          x4_readRound_33 F f l1 l2 l3 (l4 + 1) S
        ) else (
          sm_wr S 47 120 l4 l3 fun S =>
          x4_readRound_33 F f l1 l2 l3 (l4 + 1) S
        )
      ) else (
        some S
      )
    )
def x4_readRound (F : Nat) (S : sm_t) : Option (sm_t) :=
  sm_cI (x4_takeCell F S) fun v1 S =>
  sm_cV (x4_take F 58 S) fun S =>
  sm_cI (x4_takeFigure F 9 S) fun v3 S =>
  sm_cV (x4_take F 61 S) fun S =>
  sm_cI (x4_takeNumber F 2 S) fun v5 S =>
  x4_readRound_33 F F v1 v3 v5 0 S
def x1_beside (F : Nat) (l0 : Int32) (l1 : Int32) (S : sm_t) : Option (Int32 × sm_t) :=
  sm_rd sm_sx 8 l1 fun v1 =>
  sm_n ((sm_ir l0 12) + v1 : Int32) fun v2 =>
  sm_rd sm_sy 8 l1 fun v3 =>
  sm_n ((l0 / 12) + v3 : Int32) fun v4 =>
  if v2 < 0 then (
    some ((-9), S)
  ) else (
    if 12 ≤ v2 then (
      some ((-9), S)
    ) else (
      if v4 < 0 then (
        some ((-9), S)
      ) else (
        if v4 < 10 then (
          some ((v4 * 12) + v2, S)
        ) else (
          some ((-9), S)
        )
      )
    )
  )
def x4_readLine_33 (F : Nat) : Nat → Int32 → Int32 → Int32 → Int32 → sm_t → Option (sm_t)
  | 0, _, _, _, _, _ => none
  | f + 1, l1, l2, l3, l4, S => if 12 ≤ l4 then (
      some S
    ) else (
      if l1 = (-9) then (
        some S
      ) else (
        sm_n (S.1 46 3) fun v1 =>
        if v1 = (-9) then (
          sm_wr S 47 120 l1 l3 fun S =>
          sm_cI (x1_beside F l1 l2 S) fun v2 S =>
          x4_readLine_33 F f v2 l2 l3 (l4 + 1) S
        ) else (
          some S
        )
      )
    )
def x4_readLine (F : Nat) (S : sm_t) : Option (sm_t) :=
  sm_cI (x4_takeCell F S) fun v1 S =>
  sm_cV (x4_take F 58 S) fun S =>
  sm_cI (x4_takeFigure F 7 S) fun v3 S =>
  sm_cV (x4_take F 61 S) fun S =>
  sm_cI (x4_takeNumber F 2 S) fun v5 S =>
  x4_readLine_33 F F v1 v3 v5 0 S
def x4_readItem (F : Nat) (S : sm_t) : Option (sm_t) :=
  S.2.2.2.2.bind fun a1 =>
  sm_n (S.1 46 2) fun v2 =>
  sm_an (.byte) a1 fun n4 =>
  sm_rd (S.1 a1) n4 v2 fun v5 =>
  if v5 = 97 then (
    sm_n (S.1 46 2) fun v6 =>
    sm_n (sm_wI S 46 2 (v6 + 1)) fun S =>
    sm_cV (x4_take F 61 S) fun S =>
    sm_cI (x4_takeNumber F 2 S) fun v8 S =>
    sm_n (S.1 46 3) fun v9 =>
    if v9 = (-9) then (
      sm_cV (xA_fillI F 47 v8 S) fun S =>
      some S
    ) else (
      some S
    )
  ) else (
    S.2.2.2.2.bind fun a11 =>
    sm_n (S.1 46 2) fun v12 =>
    sm_an (.byte) a11 fun n14 =>
    sm_rd (S.1 a11) n14 v12 fun v15 =>
    if v15 = 114 then (
      sm_n (S.1 46 2) fun v16 =>
      sm_n (sm_wI S 46 2 (v16 + 1)) fun S =>
      sm_cV (x4_readRound F S) fun S =>
      some S
    ) else (
      S.2.2.2.2.bind fun a18 =>
      sm_n (S.1 46 2) fun v19 =>
      sm_an (.byte) a18 fun n21 =>
      sm_rd (S.1 a18) n21 v19 fun v22 =>
      if v22 = 108 then (
        sm_n (S.1 46 2) fun v23 =>
        sm_n (sm_wI S 46 2 (v23 + 1)) fun S =>
        sm_cV (x4_readLine F S) fun S =>
        some S
      ) else (
        sm_n (S.1 46 2) fun v25 =>
        sm_n (sm_wI S 46 3 v25) fun S =>
        some S
      )
    )
  )
def x4_read_40 (F : Nat) : Nat → Int32 → sm_t → Option (Int32 × sm_t)
  | 0, _, _ => none
  | f + 1, l3, S => sm_n (S.1 46 1) fun v1 =>
    if v1 ≤ l3 then (
      sm_n (S.1 46 3) fun v2 =>
      some (v2, S)
    ) else (
      sm_n (S.1 46 2) fun v3 =>
      sm_n (S.1 46 1) fun v4 =>
      if v4 ≤ v3 then (
        sm_n (S.1 46 3) fun v5 =>
        some (v5, S)
      ) else (
        sm_n (S.1 46 3) fun v6 =>
        if v6 = (-9) then (
          sm_cV (x4_readItem F S) fun S =>
          sm_n (S.1 46 5) fun v8 =>
          sm_n (sm_wI S 46 5 (v8 + 1)) fun S =>
          sm_cV (x4_skipBlanks F S) fun S =>
          x4_read_40 F f (l3 + 1) S
        ) else (
          sm_n (S.1 46 3) fun v10 =>
          some (v10, S)
        )
      )
    )
def x4_read (F : Nat) (l1 : Nat) (l2 : Int32) (S : sm_t) : Option (Int32 × sm_t) :=
  sm_n ((S.1, S.2.1, S.2.2.1, S.2.2.2.1, some l1) : sm_t) fun S =>
  sm_n (sm_wI S 46 1 l2) fun S =>
  sm_n (sm_wI S 46 2 0) fun S =>
  sm_n (sm_wI S 46 3 (-9)) fun S =>
  sm_n (sm_wI S 46 5 0) fun S =>
  sm_cV (xA_fillI F 47 0 S) fun S =>
  sm_cV (x4_skipBlanks F S) fun S =>
  x4_read_40 F F 0 S
def x7_fault (F : Nat) (l1 : Int32) (S : sm_t) : Option (Int32 × sm_t) :=
  sm_cI (x7_isText F l1 S) fun v1 S =>
  if v1 = 0 then (
    some ((-1), S)
  ) else (
    sm_rd (S.1 17) 4 l1 fun v2 =>
    if v2 = (-1) then (
      sm_cI (x7_found F 1 S) fun v3 S =>
      some (v3, S)
    ) else (
      sm_rd (fun i => 13 + i) 4 l1 fun a4 =>
      sm_rd (S.1 17) 4 l1 fun v5 =>
      sm_cI (x4_read F a4 v5 S) fun v6 S =>
      some (v6, S)
    )
  )
def x8_here (F : Nat) (l1 : Int32) (S : sm_t) : Option (Int32 × sm_t) :=
  sm_n (S.1 52 14) fun v1 =>
  sm_rd (S.1 57) 4 l1 fun v2 =>
  if v2 ≤ v1 then (
    some ((-9), S)
  ) else (
    sm_n (S.1 52 14) fun v3 =>
    sm_rd (S.1 58) 320 ((80 * l1) + v3) fun v4 =>
    some (v4, S)
  )
def x8_reads_14 (F : Nat) (t0 : Int32) (S : sm_t) : Option (Int32 × sm_t) :=
  sm_n (S.1 52 14) fun v1 =>
  if t0 = 0 then (
    sm_n (sm_wI S 52 14 (v1 + 0)) fun S =>
    sm_rz t0 S
  ) else (
    sm_n (sm_wI S 52 14 (v1 + 1)) fun S =>
    sm_rz t0 S
  )
def x8_reads (F : Nat) (l1 : Int32) (l2 : Int32) (S : sm_t) : Option (Int32 × sm_t) :=
  sm_cI (x8_here F l1 S) fun v1 S =>
  if v1 = l2 then (
    x8_reads_14 F 1 S
  ) else (
    x8_reads_14 F 0 S
  )
def x8_readsNumber_70 (F : Nat) (l3 : Int32) (l4 : Int32) (S : sm_t) : Option (Int32 × sm_t) :=
  sm_n (S.1 52 14) fun v1 =>
  if v1 ≤ l4 then (
    some (0, S)
  ) else (
    sm_n (S.1 52 15) fun v2 =>
    if l3 < v2 then (
      some (0, S)
    ) else (
      some (1, S)
    )
  )
def x8_readsNumber_11 (F : Nat) : Nat → Int32 → Int32 → Int32 → Int32 → sm_t → Option (Int32 × sm_t)
  | 0, _, _, _, _, _ => none
  | f + 1, l1, l2, l3, l4, S => sm_n (S.1 52 14) fun v1 =>
    if l2 ≤ v1 - l4 then (
      x8_readsNumber_70 F l3 l4 S
    ) else (
      sm_cI (x8_here F l1 S) fun v2 S =>
      sm_cI (x8_in F v2 48 57 S) fun v3 S =>
      if v3 = 0 then (
        x8_readsNumber_70 F l3 l4 S
      ) else (
        sm_n (S.1 52 15) fun v4 =>
        sm_cI (x8_here F l1 S) fun v5 S =>
        sm_n (sm_wI S 52 15 (((10 * v4) + v5) - 48)) fun S =>
        sm_n (S.1 52 14) fun v6 =>
        sm_n (sm_wI S 52 14 (v6 + 1)) fun S =>
        x8_readsNumber_11 F f l1 l2 l3 l4 S
      )
    )
def x8_readsNumber (F : Nat) (l1 : Int32) (l2 : Int32) (l3 : Int32) (S : sm_t) : Option (Int32 × sm_t) :=
  sm_n (S.1 52 14) fun v1 =>
  sm_n (sm_wI S 52 15 0) fun S =>
  x8_readsNumber_11 F F l1 l2 l3 v1 S
def x8_abs (F : Nat) (l0 : Int32) (S : sm_t) : Option (Int32 × sm_t) :=
  if 0 ≤ l0 then (
    some (l0, S)
  ) else (
    some (-l0, S)
  )
def x8_farOf (F : Nat) (l0 : Int32) (l1 : Int32) (S : sm_t) : Option (Int32 × sm_t) :=
  sm_cI (x8_abs F ((sm_ir l0 12) - (sm_ir l1 12)) S) fun v1 S =>
  sm_cI (x8_abs F ((l0 / 12) - (l1 / 12)) S) fun v2 S =>
  if v1 ≤ v2 then (
    some (v2, S)
  ) else (
    some (v1, S)
  )
def x8_nextOf_71 (F : Nat) (l2 : Int32) (t0 : Int32) (t1 : Int32) (S : sm_t) : Option (Int32 × sm_t) :=
  sm_n (t0 + t1 : Int32) fun v1 =>
  sm_cI (x8_in F l2 0 11 S) fun v2 S =>
  if v2 = 0 then (
    some ((-9), S)
  ) else (
    sm_cI (x8_in F v1 0 9 S) fun v3 S =>
    if v3 = 0 then (
      some ((-9), S)
    ) else (
      some ((12 * v1) + l2, S)
    )
  )
def x8_nextOf_66 (F : Nat) (l2 : Int32) (t0 : Int32) (S : sm_t) : Option (Int32 × sm_t) :=
  x8_nextOf_71 F l2 t0 (-1) S
def x8_nextOf_32 (F : Nat) (l0 : Int32) (l1 : Int32) (t0 : Int32) (t1 : Int32) (S : sm_t) : Option (Int32 × sm_t) :=
  sm_n (t0 + t1 : Int32) fun v1 =>
  sm_cI (x8_in F l1 3 5 S) fun v2 S =>
  if v2 = 0 then (
    if l1 = 0 then (
      x8_nextOf_66 F v1 (l0 / 12) S
    ) else (
      if l1 = 1 then (
        x8_nextOf_66 F v1 (l0 / 12) S
      ) else (
        if l1 = 7 then (
          x8_nextOf_66 F v1 (l0 / 12) S
        ) else (
          x8_nextOf_71 F v1 (l0 / 12) 0 S
        )
      )
    )
  ) else (
    x8_nextOf_71 F v1 (l0 / 12) 1 S
  )
def x8_nextOf (F : Nat) (l0 : Int32) (l1 : Int32) (S : sm_t) : Option (Int32 × sm_t) :=
  sm_cI (x8_in F l1 1 3 S) fun v1 S =>
  if v1 = 0 then (
    sm_cI (x8_in F l1 5 7 S) fun v2 S =>
    if v2 = 0 then (
      x8_nextOf_32 F l0 l1 (sm_ir l0 12) 0 S
    ) else (
      x8_nextOf_32 F l0 l1 (sm_ir l0 12) (-1) S
    )
  ) else (
    x8_nextOf_32 F l0 l1 (sm_ir l0 12) 1 S
  )
def x8_readsItem_215 (F : Nat) : Nat → Int32 → Int32 → Int32 → sm_t → Option (Int32 × sm_t)
  | 0, _, _, _, _ => none
  | f + 1, l2, l3, l4, S => if l2 = 108 then (
      if l3 < 0 then (
        some (1, S)
      ) else (
        sm_n (S.1 52 15) fun v1 =>
        sm_wr S 62 120 l3 v1 fun S =>
        sm_cI (x8_nextOf F l3 l4 S) fun v2 S =>
        x8_readsItem_215 F f l2 v2 l4 S
      )
    ) else (
      some (1, S)
    )
def x8_readsItem_158 (F : Nat) : Nat → Int32 → Int32 → Int32 → Int32 → sm_t → Option (Int32 × sm_t)
  | 0, _, _, _, _, _ => none
  | f + 1, l2, l3, l4, l5, S => if 120 ≤ l5 then (
      x8_readsItem_215 F F l2 l3 l4 S
    ) else (
      if l2 = 97 then (
        sm_n (S.1 52 15) fun v1 =>
        sm_wr S 62 120 l5 v1 fun S =>
        x8_readsItem_158 F f l2 l3 l4 (l5 + 1) S
      ) else (
        if l2 = 114 then (
          sm_cI (x8_farOf F l3 l5 S) fun v2 S =>
          if l4 < v2 then (
            sm_rd (S.1 62) 120 l5 fun v3 =>
            sm_wr S 62 120 l5 v3 fun S =>
            x8_readsItem_158 F f l2 l3 l4 (l5 + 1) S
          ) else (
            sm_n (S.1 52 15) fun v4 =>
            sm_wr S 62 120 l5 v4 fun S =>
            x8_readsItem_158 F f l2 l3 l4 (l5 + 1) S
          )
        ) else (
          sm_rd (S.1 62) 120 l5 fun v5 =>
          sm_wr S 62 120 l5 v5 fun S =>
          x8_readsItem_158 F f l2 l3 l4 (l5 + 1) S
        )
      )
    )
def x8_readsItem_132 (F : Nat) (l1 : Int32) (l2 : Int32) (l3 : Int32) (l4 : Int32) (S : sm_t) : Option (Int32 × sm_t) :=
  sm_cI (x8_reads F l1 61 S) fun v1 S =>
  if v1 = 0 then (
    some (0, S)
  ) else (
    sm_cI (x8_readsNumber F l1 2 99 S) fun v2 S =>
    if v2 = 0 then (
      some (0, S)
    ) else (
      x8_readsItem_158 F F l2 l3 l4 0 S
    )
  )
def x8_readsItem_93 (F : Nat) (l1 : Int32) (l2 : Int32) (l3 : Int32) (t1 : Int32) (t2 : Int32) (t3 : Int32) (S : sm_t) : Option (Int32 × sm_t) :=
  sm_cI (x8_readsNumber F t1 t2 t3 S) fun v1 S =>
  if v1 = 0 then (
    some (0, S)
  ) else (
    sm_n (S.1 52 15) fun v2 =>
    if l2 = 108 then (
      if v2 ≤ 7 then (
        x8_readsItem_132 F l1 l2 l3 v2 S
      ) else (
        sm_n (S.1 52 14) fun v3 =>
        sm_n (sm_wI S 52 14 (v3 - 1)) fun S =>
        some (0, S)
      )
    ) else (
      x8_readsItem_132 F l1 l2 l3 v2 S
    )
  )
def x8_readsItem_38 (F : Nat) (l1 : Int32) (l2 : Int32) (S : sm_t) : Option (Int32 × sm_t) :=
  if l2 = 97 then (
    x8_readsItem_132 F l1 l2 0 0 S
  ) else (
    sm_cI (x8_readsNumber F l1 3 119 S) fun v1 S =>
    if v1 = 0 then (
      some (0, S)
    ) else (
      sm_n (S.1 52 15) fun v2 =>
      sm_cI (x8_reads F l1 58 S) fun v3 S =>
      if v3 = 0 then (
        some (0, S)
      ) else (
        if l2 = 114 then (
          x8_readsItem_93 F l1 l2 v2 l1 1 9 S
        ) else (
          x8_readsItem_93 F l1 l2 v2 l1 1 99 S
        )
      )
    )
  )
def x8_readsItem (F : Nat) (l1 : Int32) (S : sm_t) : Option (Int32 × sm_t) :=
  sm_cI (x8_here F l1 S) fun v1 S =>
  sm_cI (x8_reads F l1 114 S) fun v2 S =>
  if v2 = 0 then (
    sm_cI (x8_reads F l1 108 S) fun v3 S =>
    if v3 = 0 then (
      sm_cI (x8_reads F l1 97 S) fun v4 S =>
      if v4 = 0 then (
        some (0, S)
      ) else (
        x8_readsItem_38 F l1 v1 S
      )
    ) else (
      x8_readsItem_38 F l1 v1 S
    )
  ) else (
    x8_readsItem_38 F l1 v1 S
  )
def x8_goesOn_31 (F : Nat) : Nat → Int32 → sm_t → Option (Int32 × sm_t)
  | 0, _, _ => none
  | f + 1, l1, S => sm_n (S.1 52 14) fun v1 =>
    sm_rd (S.1 57) 4 l1 fun v2 =>
    if v2 ≤ v1 then (
      some ((-9), S)
    ) else (
      sm_cI (x8_here F l1 S) fun v3 S =>
      if v3 = 32 then (
        sm_n (S.1 52 14) fun v4 =>
        sm_n (sm_wI S 52 14 (v4 + 1)) fun S =>
        x8_goesOn_31 F f l1 S
      ) else (
        sm_cI (x8_readsItem F l1 S) fun v5 S =>
        if v5 = 0 then (
          sm_n (S.1 52 14) fun v6 =>
          some (v6, S)
        ) else (
          sm_n (S.1 52 16) fun v7 =>
          sm_n (sm_wI S 52 16 (v7 + 1)) fun S =>
          x8_goesOn_31 F f l1 S
        )
      )
    )
def x8_goesOn_12 (F : Nat) : Nat → Int32 → Int32 → sm_t → Option (Int32 × sm_t)
  | 0, _, _, _ => none
  | f + 1, l1, l2, S => if 120 ≤ l2 then (
      x8_goesOn_31 F F l1 S
    ) else (
      sm_wr S 62 120 l2 0 fun S =>
      x8_goesOn_12 F f l1 (l2 + 1) S
    )
def x8_goesOn (F : Nat) (l1 : Int32) (S : sm_t) : Option (Int32 × sm_t) :=
  sm_n (sm_wI S 52 14 0) fun S =>
  sm_n (sm_wI S 52 16 0) fun S =>
  x8_goesOn_12 F F l1 0 S
def x8_fault (F : Nat) (l1 : Int32) (S : sm_t) : Option (Int32 × sm_t) :=
  sm_cI (x8_askedText F l1 S) fun v1 S =>
  if 0 ≤ v1 then (
    sm_cI (x8_goesOn F l1 S) fun v2 S =>
    some (v2, S)
  ) else (
    some (v1, S)
  )
def x7_story (F : Nat) (l1 : Int32) (l2 : Int32) (S : sm_t) : Option (Int32 × sm_t) :=
  if l1 < 1 then (
    some ((-1), S)
  ) else (
    if 3 < l1 then (
      some ((-1), S)
    ) else (
      sm_cI (x7_isText F l2 S) fun v1 S =>
      if v1 = 0 then (
        some ((-1), S)
      ) else (
        sm_rd (S.1 17) 4 l2 fun v2 =>
        if v2 = (-1) then (
          sm_cI (x7_found F 1 S) fun v3 S =>
          some (v3, S)
        ) else (
          sm_rd (fun i => 13 + i) 4 l2 fun a4 =>
          sm_rd (S.1 17) 4 l2 fun v5 =>
          sm_cI (x4_read F a4 v5 S) fun v6 S =>
          if v6 = (-9) then (
            sm_rd (fun i => 37 + i) 3 (l1 - 1) fun a7 =>
            sm_an (.int) a7 fun n9 =>
            sm_cp S 47 120 a7 n9 0 0 120 fun S =>
            sm_wr S 45 3 (l1 - 1) (vp_nar .boolean 1) fun S =>
            sm_n (S.1 46 5) fun v10 =>
            some (v10, S)
          ) else (
            some ((-4), S)
          )
        )
      )
    )
  )
def x8_story_46 (F : Nat) : Nat → Int32 → Int32 → sm_t → Option (Int32 × sm_t)
  | 0, _, _, _ => none
  | f + 1, l1, l4, S => if 120 ≤ l4 then (
      sm_n (S.1 52 16) fun v1 =>
      some (v1, S)
    ) else (
      sm_rd (S.1 62) 120 l4 fun v2 =>
      sm_wr S 61 480 ((120 * l1) + l4) v2 fun S =>
      x8_story_46 F f l1 (l4 + 1) S
    )
def x8_story (F : Nat) (l1 : Int32) (l2 : Int32) (S : sm_t) : Option (Int32 × sm_t) :=
  sm_cI (x8_in F l1 1 3 S) fun v1 S =>
  if v1 = 0 then (
    some ((-1), S)
  ) else (
    sm_cI (x8_askedText F l2 S) fun v2 S =>
    if 0 ≤ v2 then (
      sm_cI (x8_goesOn F l2 S) fun v3 S =>
      if v3 = (-9) then (
        sm_wr S 60 4 l1 (vp_nar .boolean 1) fun S =>
        x8_story_46 F F l1 0 S
      ) else (
        some ((-4), S)
      )
    ) else (
      some (v2, S)
    )
  )
def x7_isMissing (F : Nat) (l1 : Int32) (S : sm_t) : Option (Int32 × sm_t) :=
  if l1 ≤ 0 then (
    some (0, S)
  ) else (
    if 3 < l1 then (
      some (0, S)
    ) else (
      sm_rd (S.1 45) 3 (l1 - 1) fun v1 =>
      if v1 = 0 then (
        some (1, S)
      ) else (
        some (0, S)
      )
    )
  )
def x7_lies (F : Nat) (l1 : Int32) (l2 : Int32) (S : sm_t) : Option (Int32 × sm_t) :=
  if l1 < 1 then (
    some ((-1), S)
  ) else (
    if 3 < l1 then (
      some ((-1), S)
    ) else (
      sm_cI (x1_isCell F l2 S) fun v1 S =>
      if v1 = 0 then (
        some ((-1), S)
      ) else (
        sm_cI (x7_isMissing F l1 S) fun v2 S =>
        if v2 = 0 then (
          sm_rd (fun i => 37 + i) 3 (l1 - 1) fun a3 =>
          sm_an (.int) a3 fun n5 =>
          sm_rd (S.1 a3) n5 l2 fun v6 =>
          some (v6, S)
        ) else (
          sm_cI (x7_found F 1 S) fun v7 S =>
          some (v7, S)
        )
      )
    )
  )
def x8_lies (F : Nat) (l1 : Int32) (l2 : Int32) (S : sm_t) : Option (Int32 × sm_t) :=
  sm_cI (x8_in F l1 1 3 S) fun v1 S =>
  if v1 = 0 then (
    some ((-1), S)
  ) else (
    sm_cI (x8_isCell F l2 S) fun v2 S =>
    if v2 = 0 then (
      some ((-1), S)
    ) else (
      sm_rd (S.1 60) 4 l1 fun v3 =>
      if v3 = 0 then (
        sm_cI (x8_meets F 1 S) fun v4 S =>
        some (v4, S)
      ) else (
        sm_rd (S.1 61) 480 ((120 * l1) + l2) fun v5 =>
        some (v5, S)
      )
    )
  )
def x1_sideOn_31 (F : Nat) (l2 : Int32) (l3 : Int32) (S : sm_t) : Option (Int32 × sm_t) :=
  if l2 * l2 < (4 * l3) * l3 then (
    if l3 * l3 < (4 * l2) * l2 then (
      if l2 ≤ 0 then (
        if l3 ≤ 0 then (
          some (7, S)
        ) else (
          some (5, S)
        )
      ) else (
        if l3 ≤ 0 then (
          some (1, S)
        ) else (
          some (3, S)
        )
      )
    ) else (
      if l3 ≤ 0 then (
        some (0, S)
      ) else (
        some (4, S)
      )
    )
  ) else (
    if l2 ≤ 0 then (
      some (6, S)
    ) else (
      some (2, S)
    )
  )
def x1_sideOn (F : Nat) (l0 : Int32) (l1 : Int32) (S : sm_t) : Option (Int32 × sm_t) :=
  sm_n ((sm_ir l1 12) - (sm_ir l0 12) : Int32) fun v1 =>
  sm_n ((l1 / 12) - (l0 / 12) : Int32) fun v2 =>
  if v1 = 0 then (
    if v2 = 0 then (
      some ((-9), S)
    ) else (
      x1_sideOn_31 F v1 v2 S
    )
  ) else (
    x1_sideOn_31 F v1 v2 S
  )
def x7_far (F : Nat) (l1 : Int32) (l2 : Int32) (S : sm_t) : Option (Int32 × sm_t) :=
  sm_cI (x1_isCell F l1 S) fun v1 S =>
  if v1 = 0 then (
    some ((-1), S)
  ) else (
    sm_cI (x1_isCell F l2 S) fun v2 S =>
    if v2 = 0 then (
      some ((-1), S)
    ) else (
      sm_cI (x1_sideOn F l1 l2 S) fun v3 S =>
      sm_n (sm_wI S 3 11 v3) fun S =>
      sm_cI (x1_apart F l1 l2 S) fun v4 S =>
      some (v4, S)
    )
  )
def x8_sideOf_31 (F : Nat) (l2 : Int32) (l3 : Int32) (S : sm_t) : Option (Int32 × sm_t) :=
  sm_cI (x8_abs F l2 S) fun v1 S =>
  sm_cI (x8_abs F l3 S) fun v2 S =>
  if v1 < 2 * v2 then (
    sm_cI (x8_abs F l3 S) fun v3 S =>
    sm_cI (x8_abs F l2 S) fun v4 S =>
    if v3 < 2 * v4 then (
      if l2 ≤ 0 then (
        if 0 ≤ l3 then (
          some (5, S)
        ) else (
          some (7, S)
        )
      ) else (
        if 0 ≤ l3 then (
          some (3, S)
        ) else (
          some (1, S)
        )
      )
    ) else (
      if 0 ≤ l3 then (
        some (4, S)
      ) else (
        some (0, S)
      )
    )
  ) else (
    if l2 ≤ 0 then (
      some (6, S)
    ) else (
      some (2, S)
    )
  )
def x8_sideOf (F : Nat) (l0 : Int32) (l1 : Int32) (S : sm_t) : Option (Int32 × sm_t) :=
  sm_n ((sm_ir l1 12) - (sm_ir l0 12) : Int32) fun v1 =>
  sm_n ((l1 / 12) - (l0 / 12) : Int32) fun v2 =>
  if v1 = 0 then (
    if v2 = 0 then (
      some ((-9), S)
    ) else (
      x8_sideOf_31 F v1 v2 S
    )
  ) else (
    x8_sideOf_31 F v1 v2 S
  )
def x8_far (F : Nat) (l1 : Int32) (l2 : Int32) (S : sm_t) : Option (Int32 × sm_t) :=
  sm_cI (x8_isCell F l1 S) fun v1 S =>
  if v1 = 0 then (
    some ((-1), S)
  ) else (
    sm_cI (x8_isCell F l2 S) fun v2 S =>
    if v2 = 0 then (
      some ((-1), S)
    ) else (
      sm_cI (x8_sideOf F l1 l2 S) fun v3 S =>
      sm_cI (x8_farOf F l1 l2 S) fun v4 S =>
      sm_cI (x8_ask F v3 v4 S) fun v5 S =>
      some (v5, S)
    )
  )
def x6_fits (F : Nat) (l0 : Int32) (l1 : Int32) (l2 : Int32) (l3 : Int32) (S : sm_t) : Option (Int32 × sm_t) :=
  if l0 < 0 ∨ 7 < l0 then (
    some (0, S)
  ) else
  if l0 = 0 then (
    some (1, S)
  ) else
  if l0 = 1 then (
    sm_cI (x7_isWithin F l1 6 S) fun v3 S =>
    if v3 = 0 then (
      some (0, S)
    ) else (
      sm_cI (x1_isCell F l2 S) fun v4 S =>
      if v4 = 0 then (
        some (0, S)
      ) else (
        sm_cI (x7_isWithin F l3 5 S) fun v5 S =>
        if v5 = 0 then (
          some (0, S)
        ) else (
          some (1, S)
        )
      )
    )
  ) else
  if l0 = 2 then (
    sm_cI (x7_isWithin F l1 6 S) fun v7 S =>
    if v7 = 0 then (
      some (0, S)
    ) else (
      sm_cI (x1_isCell F l2 S) fun v8 S =>
      if v8 = 0 then (
        some (0, S)
      ) else (
        sm_cI (x7_isWithin F l3 5 S) fun v9 S =>
        if v9 = 0 then (
          some (0, S)
        ) else (
          some (1, S)
        )
      )
    )
  ) else
  if l0 = 3 then (
    sm_cI (x7_isWithin F l1 6 S) fun v11 S =>
    sm_rz v11 S
  ) else
  if l0 = 4 then (
    sm_cI (x1_isCell F l1 S) fun v13 S =>
    if v13 = 0 then (
      some (0, S)
    ) else (
      sm_cI (x1_isCell F l2 S) fun v14 S =>
      if v14 = 0 then (
        some (0, S)
      ) else (
        sm_cI (x7_isWithin F l3 12 S) fun v15 S =>
        if v15 = 0 then (
          some (0, S)
        ) else (
          some (1, S)
        )
      )
    )
  ) else
  if l0 = 5 then (
    sm_cI (x1_isCell F l1 S) fun v17 S =>
    if v17 = 0 then (
      some (0, S)
    ) else (
      sm_cI (x1_isSide F l2 S) fun v18 S =>
      if v18 = 0 then (
        some (0, S)
      ) else (
        sm_cI (x7_isWithin F l3 12 S) fun v19 S =>
        if v19 = 0 then (
          some (0, S)
        ) else (
          some (1, S)
        )
      )
    )
  ) else
  if l0 = 6 then (
    sm_cI (x1_isCell F l1 S) fun v21 S =>
    if v21 = 0 then (
      some (0, S)
    ) else (
      sm_cI (x1_isSide F l2 S) fun v22 S =>
      if v22 = 0 then (
        some (0, S)
      ) else (
        sm_cI (x7_isWithin F l3 12 S) fun v23 S =>
        if v23 = 0 then (
          some (0, S)
        ) else (
          some (1, S)
        )
      )
    )
  ) else
  if l0 = 7 then (
    sm_cI (x1_isCell F l1 S) fun v25 S =>
    if v25 = 0 then (
      some (0, S)
    ) else (
      sm_cI (x7_isWithin F l2 9 S) fun v26 S =>
      if v26 = 0 then (
        some (0, S)
      ) else (
        sm_cI (x7_isWithin F l3 12 S) fun v27 S =>
        if v27 = 0 then (
          some (0, S)
        ) else (
          some (1, S)
        )
      )
    )
  ) else
  none
def x6_become_58 (F : Nat) (l0 : Nat) (l4 : Int32) (l6 : Int32) (t0 : Nat) (t1 : Int32) (S : sm_t) : Option (sm_t) :=
  sm_on 5 t0 (
  sm_n (sm_wI S t0 2 t1) fun S =>
  if l6 = 0 then (
    sm_on 5 l0 (
    sm_n (sm_wI S l0 3 0) fun S =>
    sm_n (sm_wI S l0 4 0) fun S =>
    some S
    )
  ) else (
    sm_on 5 l0 (
    sm_n (sm_wI S l0 3 l4) fun S =>
    sm_n (sm_wI S l0 4 0) fun S =>
    some S
    )
  )
  )
def x6_become_44 (F : Nat) (l0 : Nat) (l3 : Int32) (l4 : Int32) (l6 : Int32) (t0 : Nat) (t1 : Int32) (S : sm_t) : Option (sm_t) :=
  sm_on 5 t0 (
  sm_n (sm_wI S t0 1 t1) fun S =>
  if l6 = 0 then (
    x6_become_58 F l0 l4 l6 l0 0 S
  ) else (
    x6_become_58 F l0 l4 l6 l0 l3 S
  )
  )
def x6_become_26 (F : Nat) (l0 : Nat) (l1 : Int32) (l2 : Int32) (l3 : Int32) (l4 : Int32) (l5 : Int32) (t0 : Int32) (S : sm_t) : Option (sm_t) :=
  sm_on 5 l0 (
  sm_n (sm_wI S l0 0 l1) fun S =>
  if l5 = 0 then (
    x6_become_44 F l0 l3 l4 t0 l0 0 S
  ) else (
    x6_become_44 F l0 l3 l4 t0 l0 l2 S
  )
  )
def x6_become_25 (F : Nat) (l0 : Nat) (l1 : Int32) (l2 : Int32) (l3 : Int32) (l4 : Int32) (l5 : Int32) (S : sm_t) : Option (sm_t) :=
  x6_become_26 F l0 l1 l2 l3 l4 l5 0 S
def x6_become_9 (F : Nat) (l0 : Nat) (l1 : Int32) (l2 : Int32) (l3 : Int32) (l4 : Int32) (t0 : Int32) (S : sm_t) : Option (sm_t) :=
  if t0 = 0 then (
    x6_become_25 F l0 l1 l2 l3 l4 t0 S
  ) else (
    if l1 = 3 then (
      x6_become_25 F l0 l1 l2 l3 l4 t0 S
    ) else (
      x6_become_26 F l0 l1 l2 l3 l4 t0 1 S
    )
  )
def x6_become (F : Nat) (l0 : Nat) (l1 : Int32) (l2 : Int32) (l3 : Int32) (l4 : Int32) (S : sm_t) : Option (sm_t) :=
  if l1 = 0 then (
    x6_become_9 F l0 l1 l2 l3 l4 0 S
  ) else (
    x6_become_9 F l0 l1 l2 l3 l4 1 S
  )
def x0_add (F : Nat) (l1 : Int32) (l2 : Int32) (l3 : Int32) (l4 : Int32) (S : sm_t) : Option (Int32 × sm_t) :=
  sm_n (S.1 22 1) fun v1 =>
  if v1 < 12 then (
    sm_n (S.1 22 1) fun v2 =>
    sm_rd (fun i => 24 + i) 12 v2 fun a3 =>
    sm_on 5 a3 (
    sm_cV (x6_become F a3 l1 l2 l3 l4 S) fun S =>
    sm_n (S.1 22 1) fun v6 =>
    sm_n (sm_wI S 22 1 (v6 + 1)) fun S =>
    sm_n (S.1 22 1) fun v7 =>
    some (v7 - 1, S)
    )
  ) else (
    some ((-9), S)
  )
def x7_sign (F : Nat) (l1 : Int32) (l2 : Int32) (l3 : Int32) (l4 : Int32) (S : sm_t) : Option (Int32 × sm_t) :=
  sm_cI (x6_fits F l1 l2 l3 l4 S) fun v1 S =>
  if v1 = 0 then (
    some ((-1), S)
  ) else (
    sm_n (S.1 22 1) fun v2 =>
    if v2 < 12 then (
      sm_cI (x0_add F l1 l2 l3 l4 S) fun v3 S =>
      some (v3, S)
    ) else (
      some ((-2), S)
    )
  )
def x8_isGood (F : Nat) (l0 : Int32) (l1 : Int32) (l2 : Int32) (l3 : Int32) (S : sm_t) : Option (Int32 × sm_t) :=
  if l0 < 0 ∨ 7 < l0 then (
    some (0, S)
  ) else
  if l0 = 0 then (
    some (1, S)
  ) else
  if l0 = 1 then (
    sm_cI (x8_in F l1 0 6 S) fun v3 S =>
    if v3 = 0 then (
      some (0, S)
    ) else (
      sm_cI (x8_isCell F l2 S) fun v4 S =>
      if v4 = 0 then (
        some (0, S)
      ) else (
        sm_cI (x8_in F l3 0 5 S) fun v5 S =>
        if v5 = 0 then (
          some (0, S)
        ) else (
          some (1, S)
        )
      )
    )
  ) else
  if l0 = 2 then (
    sm_cI (x8_in F l1 0 6 S) fun v7 S =>
    if v7 = 0 then (
      some (0, S)
    ) else (
      sm_cI (x8_isCell F l2 S) fun v8 S =>
      if v8 = 0 then (
        some (0, S)
      ) else (
        sm_cI (x8_in F l3 0 5 S) fun v9 S =>
        if v9 = 0 then (
          some (0, S)
        ) else (
          some (1, S)
        )
      )
    )
  ) else
  if l0 = 3 then (
    sm_cI (x8_in F l1 0 6 S) fun v11 S =>
    sm_rz v11 S
  ) else
  if l0 = 4 then (
    sm_cI (x8_isCell F l1 S) fun v13 S =>
    if v13 = 0 then (
      some (0, S)
    ) else (
      sm_cI (x8_isCell F l2 S) fun v14 S =>
      if v14 = 0 then (
        some (0, S)
      ) else (
        sm_cI (x8_in F l3 0 12 S) fun v15 S =>
        if v15 = 0 then (
          some (0, S)
        ) else (
          some (1, S)
        )
      )
    )
  ) else
  if l0 = 5 then (
    sm_cI (x8_isCell F l1 S) fun v17 S =>
    if v17 = 0 then (
      some (0, S)
    ) else (
      sm_cI (x8_isSide F l2 S) fun v18 S =>
      if v18 = 0 then (
        some (0, S)
      ) else (
        sm_cI (x8_in F l3 0 12 S) fun v19 S =>
        if v19 = 0 then (
          some (0, S)
        ) else (
          some (1, S)
        )
      )
    )
  ) else
  if l0 = 6 then (
    sm_cI (x8_isCell F l1 S) fun v21 S =>
    if v21 = 0 then (
      some (0, S)
    ) else (
      sm_cI (x8_isSide F l2 S) fun v22 S =>
      if v22 = 0 then (
        some (0, S)
      ) else (
        sm_cI (x8_in F l3 0 12 S) fun v23 S =>
        if v23 = 0 then (
          some (0, S)
        ) else (
          some (1, S)
        )
      )
    )
  ) else
  if l0 = 7 then (
    sm_cI (x8_isCell F l1 S) fun v25 S =>
    if v25 = 0 then (
      some (0, S)
    ) else (
      sm_cI (x8_in F l2 0 9 S) fun v26 S =>
      if v26 = 0 then (
        some (0, S)
      ) else (
        sm_cI (x8_in F l3 0 12 S) fun v27 S =>
        if v27 = 0 then (
          some (0, S)
        ) else (
          some (1, S)
        )
      )
    )
  ) else
  none
def x8_newSign_80 (F : Nat) (l5 : Int32) (t1 : Int32) (t2 : Int32) (S : sm_t) : Option (Int32 × sm_t) :=
  sm_wr S 63 60 t1 t2 fun S =>
  sm_wr S 63 60 (l5 + 4) 0 fun S =>
  sm_n (S.1 52 17) fun v1 =>
  sm_n (sm_wI S 52 17 (v1 + 1)) fun S =>
  sm_n (S.1 52 17) fun v2 =>
  some (v2 - 1, S)
def x8_newSign_74 (F : Nat) (l5 : Int32) (t1 : Int32) (S : sm_t) : Option (Int32 × sm_t) :=
  x8_newSign_80 F l5 t1 0 S
def x8_newSign_56 (F : Nat) (l1 : Int32) (l4 : Int32) (l5 : Int32) (t1 : Int32) (t2 : Int32) (S : sm_t) : Option (Int32 × sm_t) :=
  sm_wr S 63 60 t1 t2 fun S =>
  if l1 = 0 then (
    x8_newSign_74 F l5 (l5 + 3) S
  ) else (
    if l1 = 3 then (
      x8_newSign_74 F l5 (l5 + 3) S
    ) else (
      x8_newSign_80 F l5 (l5 + 3) l4 S
    )
  )
def x8_newSign_51 (F : Nat) (l1 : Int32) (l4 : Int32) (l5 : Int32) (t1 : Int32) (S : sm_t) : Option (Int32 × sm_t) :=
  x8_newSign_56 F l1 l4 l5 t1 0 S
def x8_newSign_33 (F : Nat) (l1 : Int32) (l3 : Int32) (l4 : Int32) (l5 : Int32) (t1 : Int32) (t2 : Int32) (S : sm_t) : Option (Int32 × sm_t) :=
  sm_wr S 63 60 t1 t2 fun S =>
  if l1 = 0 then (
    x8_newSign_51 F l1 l4 l5 (l5 + 2) S
  ) else (
    if l1 = 3 then (
      x8_newSign_51 F l1 l4 l5 (l5 + 2) S
    ) else (
      x8_newSign_56 F l1 l4 l5 (l5 + 2) l3 S
    )
  )
def x8_newSign (F : Nat) (l1 : Int32) (l2 : Int32) (l3 : Int32) (l4 : Int32) (S : sm_t) : Option (Int32 × sm_t) :=
  sm_n (S.1 52 17) fun v1 =>
  sm_n (5 * v1 : Int32) fun v2 =>
  sm_wr S 63 60 v2 l1 fun S =>
  if l1 = 0 then (
    x8_newSign_33 F l1 l3 l4 v2 (v2 + 1) 0 S
  ) else (
    x8_newSign_33 F l1 l3 l4 v2 (v2 + 1) l2 S
  )
def x8_sign (F : Nat) (l1 : Int32) (l2 : Int32) (l3 : Int32) (l4 : Int32) (S : sm_t) : Option (Int32 × sm_t) :=
  sm_cI (x8_isGood F l1 l2 l3 l4 S) fun v1 S =>
  if v1 = 0 then (
    some ((-1), S)
  ) else (
    sm_n (S.1 52 17) fun v2 =>
    if v2 = 12 then (
      some ((-2), S)
    ) else (
      sm_cI (x8_newSign F l1 l2 l3 l4 S) fun v3 S =>
      some (v3, S)
    )
  )
def x7_signs_119 (F : Nat) : Nat → Int32 → Nat → Int32 → sm_t → Option (Int32 × sm_t)
  | 0, _, _, _, _ => none
  | f + 1, l2, l3, l4, S => if l2 ≤ l4 + 3 then (
      some (l2 / 4, S)
    ) else (
      sm_an (.int) l3 fun n2 =>
      sm_rd (S.1 l3) n2 l4 fun v3 =>
      sm_rd (S.1 l3) n2 (l4 + 1) fun v4 =>
      sm_rd (S.1 l3) n2 (l4 + 2) fun v5 =>
      sm_rd (S.1 l3) n2 (l4 + 3) fun v6 =>
      sm_cI (x0_add F v3 v4 v5 v6 S) fun v7 S =>
      x7_signs_119 F f l2 l3 (l4 + 4) S
    )
def x7_signs_68 (F : Nat) : Nat → Int32 → Nat → Int32 → sm_t → Option (Int32 × sm_t)
  | 0, _, _, _, _ => none
  | f + 1, l2, l3, l4, S => if l2 ≤ l4 + 3 then (
      x7_signs_119 F F l2 l3 0 S
    ) else (
      sm_an (.int) l3 fun n2 =>
      sm_rd (S.1 l3) n2 l4 fun v3 =>
      sm_rd (S.1 l3) n2 (l4 + 1) fun v4 =>
      sm_rd (S.1 l3) n2 (l4 + 2) fun v5 =>
      sm_rd (S.1 l3) n2 (l4 + 3) fun v6 =>
      sm_cI (x6_fits F v3 v4 v5 v6 S) fun v7 S =>
      if v7 = 0 then (
        sm_cI (x7_found F 3 S) fun v8 S =>
        some (v8, S)
      ) else (
        x7_signs_68 F f l2 l3 (l4 + 4) S
      )
    )
def x7_signs (F : Nat) (l1 : Int32) (S : sm_t) : Option (Int32 × sm_t) :=
  sm_cI (x7_isRow F l1 S) fun v1 S =>
  if v1 = 0 then (
    some ((-1), S)
  ) else (
    sm_rd (S.1 11) 6 l1 fun v2 =>
    if v2 = (-1) then (
      sm_cI (x7_found F 1 S) fun v3 S =>
      some (v3, S)
    ) else (
      if sm_ir v2 4 = 0 then (
        sm_n (S.1 22 1) fun v4 =>
        if v4 + (v2 / 4) ≤ 12 then (
          sm_rd (fun i => 5 + i) 6 l1 fun a5 =>
          x7_signs_68 F F v2 a5 0 S
        ) else (
          some ((-2), S)
        )
      ) else (
        sm_cI (x7_found F 5 S) fun v6 S =>
        some (v6, S)
      )
    )
  )
def x8_signs_125 (F : Nat) : Nat → Int32 → Int32 → Int32 → sm_t → Option (Int32 × sm_t)
  | 0, _, _, _, _ => none
  | f + 1, l1, l3, l4, S => if l3 ≤ l4 then (
      some (l3, S)
    ) else (
      sm_cI (x8_rowAt F l1 (4 * l4) S) fun v1 S =>
      sm_cI (x8_rowAt F l1 ((4 * l4) + 1) S) fun v2 S =>
      sm_cI (x8_rowAt F l1 ((4 * l4) + 2) S) fun v3 S =>
      sm_cI (x8_rowAt F l1 ((4 * l4) + 3) S) fun v4 S =>
      sm_cI (x8_newSign F v1 v2 v3 v4 S) fun v5 S =>
      x8_signs_125 F f l1 l3 (l4 + 1) S
    )
def x8_signs_56 (F : Nat) : Nat → Int32 → Int32 → Int32 → sm_t → Option (Int32 × sm_t)
  | 0, _, _, _, _ => none
  | f + 1, l1, l3, l4, S => if l3 ≤ l4 then (
      x8_signs_125 F F l1 l3 0 S
    ) else (
      sm_cI (x8_rowAt F l1 (4 * l4) S) fun v1 S =>
      sm_cI (x8_rowAt F l1 ((4 * l4) + 1) S) fun v2 S =>
      sm_cI (x8_rowAt F l1 ((4 * l4) + 2) S) fun v3 S =>
      sm_cI (x8_rowAt F l1 ((4 * l4) + 3) S) fun v4 S =>
      sm_cI (x8_isGood F v1 v2 v3 v4 S) fun v5 S =>
      if v5 = 0 then (
        sm_cI (x8_meets F 3 S) fun v6 S =>
        some (v6, S)
      ) else (
        x8_signs_56 F f l1 l3 (l4 + 1) S
      )
    )
def x8_signs (F : Nat) (l1 : Int32) (S : sm_t) : Option (Int32 × sm_t) :=
  sm_cI (x8_askedRow F l1 S) fun v1 S =>
  if 0 ≤ v1 then (
    sm_rd (S.1 54) 6 l1 fun v2 =>
    sm_n (v2 / 4 : Int32) fun v3 =>
    sm_rd (S.1 54) 6 l1 fun v4 =>
    if v4 = 4 * v3 then (
      sm_n (S.1 52 17) fun v5 =>
      if v5 + v3 ≤ 12 then (
        x8_signs_56 F F l1 v3 0 S
      ) else (
        some ((-2), S)
      )
    ) else (
      sm_cI (x8_meets F 5 S) fun v6 S =>
      some (v6, S)
    )
  ) else (
    some (v1, S)
  )
def x0_has (F : Nat) (l1 : Int32) (S : sm_t) : Option (Int32 × sm_t) :=
  if l1 < 0 then (
    some (0, S)
  ) else (
    sm_n (S.1 22 1) fun v1 =>
    if v1 ≤ l1 then (
      some (0, S)
    ) else (
      some (1, S)
    )
  )
def x7_undo_41 (F : Nat) (l1 : Int32) (l2 : Int32) (t0 : Int32) (S : sm_t) : Option (Int32 × sm_t) :=
  sm_rd (fun i => 24 + i) 12 l1 fun a1 =>
  if l2 = 1 then (
    sm_on 5 a1 (
    sm_n (sm_wI S a1 4 1) fun S =>
    some (t0, S)
    )
  ) else (
    sm_on 5 a1 (
    sm_n (sm_wI S a1 4 0) fun S =>
    some (t0, S)
    )
  )
def x7_undo (F : Nat) (l1 : Int32) (l2 : Int32) (S : sm_t) : Option (Int32 × sm_t) :=
  sm_cI (x0_has F l1 S) fun v1 S =>
  if v1 = 0 then (
    some ((-1), S)
  ) else (
    sm_cI (x7_isWithin F l2 1 S) fun v2 S =>
    if v2 = 0 then (
      some ((-1), S)
    ) else (
      sm_rd (fun i => 24 + i) 12 l1 fun a3 =>
      sm_on 5 a3 (
      sm_n (S.1 a3 4) fun v5 =>
      if v5 = 0 then (
        x7_undo_41 F l1 l2 0 S
      ) else (
        x7_undo_41 F l1 l2 1 S
      )
      )
    )
  )
def x8_isSign (F : Nat) (l1 : Int32) (S : sm_t) : Option (Int32 × sm_t) :=
  sm_n (S.1 52 17) fun v1 =>
  sm_cI (x8_in F l1 0 (v1 - 1) S) fun v2 S =>
  sm_rz v2 S
def x8_tell (F : Nat) (l1 : Int32) (l2 : Int32) (S : sm_t) : Option (Int32 × sm_t) :=
  sm_rd (S.1 63) 60 ((5 * l1) + l2) fun v1 =>
  some (v1, S)
def x8_undo (F : Nat) (l1 : Int32) (l2 : Int32) (S : sm_t) : Option (Int32 × sm_t) :=
  sm_cI (x8_isSign F l1 S) fun v1 S =>
  if v1 = 0 then (
    some ((-1), S)
  ) else (
    sm_cI (x8_in F l2 0 1 S) fun v2 S =>
    if v2 = 0 then (
      some ((-1), S)
    ) else (
      sm_cI (x8_tell F l1 4 S) fun v3 S =>
      sm_wr S 63 60 ((5 * l1) + 4) l2 fun S =>
      some (v3, S)
    )
  )
def x6_number (F : Nat) (l0 : Nat) (l1 : Int32) (S : sm_t) : Option (Int32 × sm_t) :=
  if l1 < 0 ∨ 3 < l1 then (
    sm_on 5 l0 (
    sm_n (S.1 l0 4) fun v2 =>
    if v2 = 0 then (
      some (0, S)
    ) else (
      some (1, S)
    )
    )
  ) else
  if l1 = 0 then (
    sm_on 5 l0 (
    sm_n (S.1 l0 0) fun v5 =>
    some (v5, S)
    )
  ) else
  if l1 = 1 then (
    sm_on 5 l0 (
    sm_n (S.1 l0 1) fun v8 =>
    some (v8, S)
    )
  ) else
  if l1 = 2 then (
    sm_on 5 l0 (
    sm_n (S.1 l0 2) fun v11 =>
    some (v11, S)
    )
  ) else
  if l1 = 3 then (
    sm_on 5 l0 (
    sm_n (S.1 l0 3) fun v14 =>
    some (v14, S)
    )
  ) else
  none
def x7_told (F : Nat) (l1 : Int32) (l2 : Int32) (S : sm_t) : Option (Int32 × sm_t) :=
  sm_cI (x0_has F l1 S) fun v1 S =>
  if v1 = 0 then (
    some ((-1), S)
  ) else (
    sm_cI (x7_isWithin F l2 4 S) fun v2 S =>
    if v2 = 0 then (
      some ((-1), S)
    ) else (
      sm_rd (fun i => 24 + i) 12 l1 fun a3 =>
      sm_on 5 a3 (
      sm_cI (x6_number F a3 l2 S) fun v4 S =>
      sm_n (sm_wI S 3 11 v4) fun S =>
      some (1, S)
      )
    )
  )
def x8_told (F : Nat) (l1 : Int32) (l2 : Int32) (S : sm_t) : Option (Int32 × sm_t) :=
  sm_cI (x8_isSign F l1 S) fun v1 S =>
  if v1 = 0 then (
    some ((-1), S)
  ) else (
    sm_cI (x8_in F l2 0 4 S) fun v2 S =>
    if v2 = 0 then (
      some ((-1), S)
    ) else (
      sm_cI (x8_tell F l1 l2 S) fun v3 S =>
      sm_cI (x8_ask F v3 1 S) fun v4 S =>
      some (v4, S)
    )
  )
def x6_is (F : Nat) (l0 : Nat) (l1 : Int32) (S : sm_t) : Option (Int32 × sm_t) :=
  sm_on 5 l0 (
  sm_n (S.1 l0 0) fun v2 =>
  if v2 = l1 then (
    some (1, S)
  ) else (
    sm_n (S.1 l0 0) fun v3 =>
    if v3 = 6 then (
      if l1 = 5 then (
        some (1, S)
      ) else (
        some (0, S)
      )
    ) else (
      some (0, S)
    )
  )
  )
def x6_heardWeight (F : Nat) (l0 : Int32) (l1 : Int32) (S : sm_t) : Option (Int32 × sm_t) :=
  sm_n (sm_ab (l0 - (sm_mx (5 - l1) 0)) : Int32) fun v1 =>
  if v1 < 0 ∨ 3 < v1 then (
    some (0, S)
  ) else
  if v1 = 0 then (
    some (12, S)
  ) else
  if v1 = 1 then (
    some (8, S)
  ) else
  if v1 = 2 then (
    some (4, S)
  ) else
  if v1 = 3 then (
    some (1, S)
  ) else
  none
def x6_nearestHeard_2 (F : Nat) : Nat → Int32 → Int32 → sm_t → Option (Int32 × sm_t)
  | 0, _, _, _ => none
  | f + 1, l0, l1, S => if 11 < l1 then (
      some ((-9), S)
    ) else (
      sm_cI (x6_heardWeight F l0 l1 S) fun v1 S =>
      if v1 < 8 then (
        x6_nearestHeard_2 F f l0 (l1 + 1) S
      ) else (
        some (l1, S)
      )
    )
def x6_nearestHeard (F : Nat) (l0 : Int32) (S : sm_t) : Option (Int32 × sm_t) :=
  x6_nearestHeard_2 F F l0 0 S
def x6_isBetween (F : Nat) (l0 : Int32) (l1 : Int32) (l2 : Int32) (S : sm_t) : Option (Int32 × sm_t) :=
  if l2 < l1 then (
    if l0 < l2 then (
      some (0, S)
    ) else (
      if l1 < l0 then (
        some (0, S)
      ) else (
        some (1, S)
      )
    )
  ) else (
    if l0 < l1 then (
      some (0, S)
    ) else (
      if l2 < l0 then (
        some (0, S)
      ) else (
        some (1, S)
      )
    )
  )
def x6_saw (F : Nat) (l0 : Nat) (l1 : Int32) (S : sm_t) : Option (Int32 × sm_t) :=
  sm_on 5 l0 (
  sm_n (S.1 l0 1) fun v2 =>
  sm_n (S.1 l0 2) fun v3 =>
  sm_cI (x6_isBetween F (sm_ir l1 12) (sm_ir v2 12) (sm_ir v3 12) S) fun v4 S =>
  if v4 = 0 then (
    some (0, S)
  ) else (
    sm_n (S.1 l0 1) fun v5 =>
    sm_n (S.1 l0 2) fun v6 =>
    sm_cI (x6_isBetween F (l1 / 12) (v5 / 12) (v6 / 12) S) fun v7 S =>
    if v7 = 0 then (
      some (0, S)
    ) else (
      some (1, S)
    )
  )
  )
def x6_cellsSeen_4 (F : Nat) : Nat → Nat → Int32 → Int32 → sm_t → Option (Int32 × sm_t)
  | 0, _, _, _, _ => none
  | f + 1, l0, l1, l2, S => if 120 ≤ l2 then (
      some (l1, S)
    ) else (
      sm_on 5 l0 (
      sm_cI (x6_saw F l0 l2 S) fun v1 S =>
      if v1 = 0 then (
        sm_n (l1 + 0 : Int32) fun v3 =>
        x6_cellsSeen_4 F f l0 v3 (l2 + 1) S
      ) else (
        sm_n (l1 + 1 : Int32) fun v4 =>
        x6_cellsSeen_4 F f l0 v4 (l2 + 1) S
      )
      )
    )
def x6_cellsSeen (F : Nat) (l0 : Nat) (S : sm_t) : Option (Int32 × sm_t) :=
  x6_cellsSeen_4 F F l0 0 0 S
def x6_fixedWeight (F : Nat) (l0 : Int32) (l1 : Int32) (S : sm_t) : Option (Int32 × sm_t) :=
  if l0 < l1 then (
    if (2 * l0) + 1 < l1 then (
      some (1, S)
    ) else (
      some (4, S)
    )
  ) else (
    some (12, S)
  )
def x6_burntWeight (F : Nat) (l0 : Int32) (S : sm_t) : Option (Int32 × sm_t) :=
  if l0 < 0 ∨ 2 < l0 then (
    some (0, S)
  ) else
  if l0 = 0 then (
    some (12, S)
  ) else
  if l0 = 1 then (
    some (6, S)
  ) else
  if l0 = 2 then (
    some (2, S)
  ) else
  none
def x6_isFrom (F : Nat) (l0 : Nat) (l1 : Int32) (S : sm_t) : Option (Int32 × sm_t) :=
  sm_on 5 l0 (
  sm_n (S.1 l0 1) fun v2 =>
  sm_cI (x1_sideOn F v2 l1 S) fun v3 S =>
  sm_n (S.1 l0 2) fun v4 =>
  if v3 = v4 then (
    some (1, S)
  ) else (
    some (0, S)
  )
  )
def x6_weight (F : Nat) (l0 : Nat) (l1 : Int32) (S : sm_t) : Option (Int32 × sm_t) :=
  sm_on 5 l0 (
  sm_n (S.1 l0 0) fun v2 =>
  if v2 < 1 ∨ 7 < v2 then (
    some (12, S)
  ) else
  if v2 = 1 then (
    sm_n (S.1 l0 3) fun v4 =>
    sm_n (S.1 l0 2) fun v5 =>
    sm_cI (x1_apart F v5 l1 S) fun v6 S =>
    sm_cI (x6_heardWeight F v4 v6 S) fun v7 S =>
    some (v7, S)
  ) else
  if v2 = 2 then (
    sm_n (S.1 l0 3) fun v9 =>
    sm_n (S.1 l0 2) fun v10 =>
    sm_cI (x1_apart F v10 l1 S) fun v11 S =>
    sm_cI (x6_fixedWeight F v9 v11 S) fun v12 S =>
    some (v12, S)
  ) else
  if v2 = 3 then (
    sm_n (S.1 l0 1) fun v14 =>
    sm_cI (x6_burntWeight F (sm_ab (v14 - l1)) S) fun v15 S =>
    some (v15, S)
  ) else
  if v2 = 4 then (
    sm_cI (x6_saw F l0 l1 S) fun v17 S =>
    if v17 = 0 then (
      some (12, S)
    ) else (
      sm_n (S.1 l0 3) fun v18 =>
      some (12 - v18, S)
    )
  ) else
  if v2 = 5 then (
    sm_cI (x6_isFrom F l0 l1 S) fun v20 S =>
    if v20 = 0 then (
      sm_n (S.1 l0 3) fun v21 =>
      some (12 - v21, S)
    ) else (
      some (12, S)
    )
  ) else
  if v2 = 6 then (
    some (12, S)
  ) else
  if v2 = 7 then (
    sm_n (S.1 l0 1) fun v24 =>
    sm_cI (x1_apart F v24 l1 S) fun v25 S =>
    sm_n (S.1 l0 2) fun v26 =>
    if v26 < v25 then (
      sm_n (S.1 l0 3) fun v27 =>
      some (12 - v27, S)
    ) else (
      some (12, S)
    )
  ) else
  none
  )
def x6_cellsOfFullWeight_4 (F : Nat) : Nat → Nat → Int32 → Int32 → sm_t → Option (Int32 × sm_t)
  | 0, _, _, _, _ => none
  | f + 1, l0, l1, l2, S => if 120 ≤ l2 then (
      some (l1, S)
    ) else (
      sm_on 5 l0 (
      sm_cI (x6_weight F l0 l2 S) fun v1 S =>
      if v1 = 12 then (
        sm_n (l1 + 1 : Int32) fun v3 =>
        x6_cellsOfFullWeight_4 F f l0 v3 (l2 + 1) S
      ) else (
        sm_n (l1 + 0 : Int32) fun v4 =>
        x6_cellsOfFullWeight_4 F f l0 v4 (l2 + 1) S
      )
      )
    )
def x6_cellsOfFullWeight (F : Nat) (l0 : Nat) (S : sm_t) : Option (Int32 × sm_t) :=
  x6_cellsOfFullWeight_4 F F l0 0 0 S
def x6_tells (F : Nat) (l0 : Nat) (l1 : Int32) (S : sm_t) : Option (Int32 × sm_t) :=
  if l1 < 1 ∨ 6 < l1 then (
    sm_on 5 l0 (
    sm_cI (x6_cellsOfFullWeight F l0 S) fun v1 S =>
    some (v1, S)
    )
  ) else
  if l1 = 1 then (
    sm_on 5 l0 (
    sm_n (S.1 l0 3) fun v5 =>
    sm_cI (x6_nearestHeard F v5 S) fun v6 S =>
    some (v6, S)
    )
  ) else
  if l1 = 2 then (
    sm_on 5 l0 (
    sm_cI (x6_cellsOfFullWeight F l0 S) fun v8 S =>
    some (v8, S)
    )
  ) else
  if l1 = 3 then (
    sm_on 5 l0 (
    sm_n (S.1 l0 1) fun v12 =>
    some (v12, S)
    )
  ) else
  if l1 = 4 then (
    sm_on 5 l0 (
    sm_cI (x6_cellsSeen F l0 S) fun v14 S =>
    some (v14, S)
    )
  ) else
  if l1 = 5 then (
    sm_on 5 l0 (
    sm_n (S.1 l0 2) fun v18 =>
    some (v18, S)
    )
  ) else
  if l1 = 6 then (
    sm_on 5 l0 (
    sm_n (S.1 l0 3) fun v21 =>
    some (v21, S)
    )
  ) else
  none
def x7_mark (F : Nat) (l1 : Int32) (l2 : Int32) (S : sm_t) : Option (Int32 × sm_t) :=
  sm_cI (x0_has F l1 S) fun v1 S =>
  if v1 = 0 then (
    some ((-1), S)
  ) else (
    if l2 < 1 then (
      some ((-1), S)
    ) else (
      if l2 ≤ 7 then (
        sm_rd (fun i => 24 + i) 12 l1 fun a2 =>
        sm_on 5 a2 (
        sm_cI (x6_is F a2 l2 S) fun v3 S =>
        if v3 = 0 then (
          sm_cI (x7_found F 3 S) fun v5 S =>
          some (v5, S)
        ) else (
          sm_rd (fun i => 24 + i) 12 l1 fun a6 =>
          sm_on 5 a6 (
          sm_cI (x6_tells F a6 l2 S) fun v7 S =>
          some (v7, S)
          )
        )
        )
      ) else (
        some ((-1), S)
      )
    )
  )
def x8_heardBy_13 (F : Nat) (t0 : Int32) (t1 : Int32) (S : sm_t) : Option (Int32 × sm_t) :=
  sm_cI (x8_abs F (t0 - t1) S) fun v1 S =>
  if v1 = 0 then (
    some (12, S)
  ) else (
    if v1 = 1 then (
      some (8, S)
    ) else (
      if v1 = 2 then (
        some (4, S)
      ) else (
        if v1 = 3 then (
          some (1, S)
        ) else (
          some (0, S)
        )
      )
    )
  )
def x8_heardBy (F : Nat) (l0 : Int32) (l1 : Int32) (S : sm_t) : Option (Int32 × sm_t) :=
  if l1 ≤ 5 then (
    x8_heardBy_13 F l0 (5 - l1) S
  ) else (
    x8_heardBy_13 F l0 0 S
  )
def x8_leastFar_2 (F : Nat) : Nat → Int32 → Int32 → sm_t → Option (Int32 × sm_t)
  | 0, _, _, _ => none
  | f + 1, l0, l1, S => sm_cI (x8_heardBy F l0 l1 S) fun v1 S =>
    if 8 ≤ v1 then (
      some (l1, S)
    ) else (
      x8_leastFar_2 F f l0 (l1 + 1) S
    )
def x8_leastFar (F : Nat) (l0 : Int32) (S : sm_t) : Option (Int32 × sm_t) :=
  x8_leastFar_2 F F l0 0 S
def x8_isBetween (F : Nat) (l0 : Int32) (l1 : Int32) (l2 : Int32) (S : sm_t) : Option (Int32 × sm_t) :=
  if l2 ≤ l1 then (
    sm_cI (x8_in F l0 l2 l1 S) fun v1 S =>
    sm_rz v1 S
  ) else (
    sm_cI (x8_in F l0 l1 l2 S) fun v2 S =>
    sm_rz v2 S
  )
def x8_isSeen (F : Nat) (l0 : Int32) (l1 : Int32) (l2 : Int32) (S : sm_t) : Option (Int32 × sm_t) :=
  sm_cI (x8_isBetween F (sm_ir l0 12) (sm_ir l1 12) (sm_ir l2 12) S) fun v1 S =>
  if v1 = 0 then (
    some (0, S)
  ) else (
    sm_cI (x8_isBetween F (l0 / 12) (l1 / 12) (l2 / 12) S) fun v2 S =>
    if v2 = 0 then (
      some (0, S)
    ) else (
      some (1, S)
    )
  )
def x8_weight (F : Nat) (l1 : Int32) (l2 : Int32) (S : sm_t) : Option (Int32 × sm_t) :=
  sm_cI (x8_tell F l1 1 S) fun v1 S =>
  sm_cI (x8_tell F l1 2 S) fun v2 S =>
  sm_cI (x8_tell F l1 3 S) fun v3 S =>
  sm_cI (x8_tell F l1 0 S) fun v4 S =>
  if v4 < 1 ∨ 7 < v4 then (
    some (12, S)
  ) else
  if v4 = 1 then (
    sm_cI (x8_farOf F v2 l2 S) fun v6 S =>
    sm_cI (x8_heardBy F v3 v6 S) fun v7 S =>
    some (v7, S)
  ) else
  if v4 = 2 then (
    sm_cI (x8_farOf F v2 l2 S) fun v9 S =>
    if v3 < v9 then (
      sm_cI (x8_farOf F v2 l2 S) fun v10 S =>
      if (2 * v3) + 1 < v10 then (
        some (1, S)
      ) else (
        some (4, S)
      )
    ) else (
      some (12, S)
    )
  ) else
  if v4 = 3 then (
    if v1 = l2 then (
      some (12, S)
    ) else (
      sm_cI (x8_abs F (v1 - l2) S) fun v12 S =>
      if v12 = 1 then (
        some (6, S)
      ) else (
        sm_cI (x8_abs F (v1 - l2) S) fun v13 S =>
        if v13 = 2 then (
          some (2, S)
        ) else (
          some (0, S)
        )
      )
    )
  ) else
  if v4 = 4 then (
    sm_cI (x8_isSeen F l2 v1 v2 S) fun v15 S =>
    if v15 = 0 then (
      some (12, S)
    ) else (
      some (12 - v3, S)
    )
  ) else
  if v4 = 5 then (
    sm_cI (x8_sideOf F v1 l2 S) fun v17 S =>
    if v17 = v2 then (
      some (12, S)
    ) else (
      some (12 - v3, S)
    )
  ) else
  if v4 = 6 then (
    some (12, S)
  ) else
  if v4 = 7 then (
    sm_cI (x8_farOf F v1 l2 S) fun v20 S =>
    if v2 < v20 then (
      some (12 - v3, S)
    ) else (
      some (12, S)
    )
  ) else
  none
def x8_fullCells_4 (F : Nat) : Nat → Int32 → Int32 → Int32 → sm_t → Option (Int32 × sm_t)
  | 0, _, _, _, _ => none
  | f + 1, l1, l2, l3, S => if 120 ≤ l3 then (
      some (l2, S)
    ) else (
      sm_cI (x8_tell F l1 0 S) fun v1 S =>
      if v1 = 4 then (
        sm_cI (x8_tell F l1 1 S) fun v2 S =>
        sm_cI (x8_tell F l1 2 S) fun v3 S =>
        sm_cI (x8_isSeen F l3 v2 v3 S) fun v4 S =>
        if v4 = 0 then (
          sm_n (l2 + 0 : Int32) fun v5 =>
          x8_fullCells_4 F f l1 v5 (l3 + 1) S
        ) else (
          sm_n (l2 + 1 : Int32) fun v6 =>
          x8_fullCells_4 F f l1 v6 (l3 + 1) S
        )
      ) else (
        sm_cI (x8_weight F l1 l3 S) fun v7 S =>
        if v7 = 12 then (
          sm_n (l2 + 1 : Int32) fun v8 =>
          x8_fullCells_4 F f l1 v8 (l3 + 1) S
        ) else (
          sm_n (l2 + 0 : Int32) fun v9 =>
          x8_fullCells_4 F f l1 v9 (l3 + 1) S
        )
      )
    )
def x8_fullCells (F : Nat) (l1 : Int32) (S : sm_t) : Option (Int32 × sm_t) :=
  x8_fullCells_4 F F l1 0 0 S
def x8_mark_49 (F : Nat) (l1 : Int32) (l2 : Int32) (S : sm_t) : Option (Int32 × sm_t) :=
  if l2 < 1 ∨ 6 < l2 then (
    sm_cI (x8_fullCells F l1 S) fun v1 S =>
    some (v1, S)
  ) else
  if l2 = 1 then (
    sm_cI (x8_tell F l1 3 S) fun v3 S =>
    sm_cI (x8_leastFar F v3 S) fun v4 S =>
    some (v4, S)
  ) else
  if l2 = 2 then (
    sm_cI (x8_fullCells F l1 S) fun v6 S =>
    some (v6, S)
  ) else
  if l2 = 3 then (
    sm_cI (x8_tell F l1 1 S) fun v8 S =>
    some (v8, S)
  ) else
  if l2 = 4 then (
    sm_cI (x8_fullCells F l1 S) fun v10 S =>
    some (v10, S)
  ) else
  if l2 = 5 then (
    sm_cI (x8_tell F l1 2 S) fun v12 S =>
    some (v12, S)
  ) else
  if l2 = 6 then (
    sm_cI (x8_tell F l1 3 S) fun v14 S =>
    some (v14, S)
  ) else
  none
def x8_mark (F : Nat) (l1 : Int32) (l2 : Int32) (S : sm_t) : Option (Int32 × sm_t) :=
  sm_cI (x8_isSign F l1 S) fun v1 S =>
  if v1 = 0 then (
    some ((-1), S)
  ) else (
    sm_cI (x8_in F l2 1 7 S) fun v2 S =>
    if v2 = 0 then (
      some ((-1), S)
    ) else (
      sm_cI (x8_tell F l1 0 S) fun v3 S =>
      if v3 = l2 then (
        x8_mark_49 F l1 l2 S
      ) else (
        if l2 = 5 then (
          if v3 = 6 then (
            x8_mark_49 F l1 l2 S
          ) else (
            sm_cI (x8_meets F 3 S) fun v4 S =>
            some (v4, S)
          )
        ) else (
          sm_cI (x8_meets F 3 S) fun v5 S =>
          some (v5, S)
        )
      )
    )
  )
def x7_weighs (F : Nat) (l1 : Int32) (l2 : Int32) (S : sm_t) : Option (Int32 × sm_t) :=
  sm_cI (x0_has F l1 S) fun v1 S =>
  if v1 = 0 then (
    some ((-1), S)
  ) else (
    sm_rd (fun i => 24 + i) 12 l1 fun a2 =>
    sm_on 5 a2 (
    sm_n (S.1 a2 0) fun v4 =>
    if v4 = 3 then (
      sm_cI (x7_isWithin F l2 6 S) fun v5 S =>
      if v5 = 0 then (
        some ((-1), S)
      ) else (
        sm_cI (x6_weight F a2 l2 S) fun v6 S =>
        some (v6, S)
      )
    ) else (
      sm_cI (x1_isCell F l2 S) fun v7 S =>
      if v7 = 0 then (
        some ((-1), S)
      ) else (
        sm_cI (x6_weight F a2 l2 S) fun v8 S =>
        some (v8, S)
      )
    )
    )
  )
def x8_weighs (F : Nat) (l1 : Int32) (l2 : Int32) (S : sm_t) : Option (Int32 × sm_t) :=
  sm_cI (x8_isSign F l1 S) fun v1 S =>
  if v1 = 0 then (
    some ((-1), S)
  ) else (
    sm_cI (x8_tell F l1 0 S) fun v2 S =>
    if v2 = 3 then (
      sm_cI (x8_in F l2 0 6 S) fun v3 S =>
      if v3 = 0 then (
        some ((-1), S)
      ) else (
        sm_cI (x8_weight F l1 l2 S) fun v4 S =>
        some (v4, S)
      )
    ) else (
      sm_cI (x8_isCell F l2 S) fun v5 S =>
      if v5 = 0 then (
        some ((-1), S)
      ) else (
        sm_cI (x8_weight F l1 l2 S) fun v6 S =>
        some (v6, S)
      )
    )
  )
def x6_farthestHeard_3 (F : Nat) : Nat → Int32 → Int32 → sm_t → Option (Int32 × sm_t)
  | 0, _, _, _ => none
  | f + 1, l0, l1, S => if l1 < 0 then (
      some ((-9), S)
    ) else (
      sm_cI (x6_heardWeight F l0 l1 S) fun v1 S =>
      if v1 < 8 then (
        x6_farthestHeard_3 F f l0 (l1 + (-1)) S
      ) else (
        some (l1, S)
      )
    )
def x6_farthestHeard (F : Nat) (l0 : Int32) (S : sm_t) : Option (Int32 × sm_t) :=
  x6_farthestHeard_3 F F l0 11 S
def x7_near (F : Nat) (l1 : Int32) (S : sm_t) : Option (Int32 × sm_t) :=
  sm_cI (x7_isWithin F l1 5 S) fun v1 S =>
  if v1 = 0 then (
    some ((-1), S)
  ) else (
    sm_cI (x6_farthestHeard F l1 S) fun v2 S =>
    sm_n (sm_wI S 3 11 v2) fun S =>
    sm_cI (x6_nearestHeard F l1 S) fun v3 S =>
    some (v3, S)
  )
def x8_near_14 (F : Nat) : Nat → Int32 → Int32 → sm_t → Option (Int32 × sm_t)
  | 0, _, _, _ => none
  | f + 1, l1, l2, S => sm_cI (x8_heardBy F l1 l2 S) fun v1 S =>
    if 8 ≤ v1 then (
      sm_cI (x8_leastFar F l1 S) fun v2 S =>
      sm_cI (x8_ask F l2 v2 S) fun v3 S =>
      some (v3, S)
    ) else (
      x8_near_14 F f l1 (l2 + (-1)) S
    )
def x8_near (F : Nat) (l1 : Int32) (S : sm_t) : Option (Int32 × sm_t) :=
  sm_cI (x8_in F l1 0 5 S) fun v1 S =>
  if v1 = 0 then (
    some ((-1), S)
  ) else (
    x8_near_14 F F l1 11 S
  )
def x7_isStory (F : Nat) (l0 : Int32) (S : sm_t) : Option (Int32 × sm_t) :=
  if l0 < 0 then (
    some (0, S)
  ) else (
    if 3 < l0 then (
      some (0, S)
    ) else (
      some (1, S)
    )
  )
def x6_counts (F : Nat) (l0 : Nat) (S : sm_t) : Option (Int32 × sm_t) :=
  sm_on 5 l0 (
  sm_n (S.1 l0 4) fun v2 =>
  if v2 = 0 then (
    sm_n (S.1 l0 0) fun v3 =>
    if v3 = 0 then (
      some (0, S)
    ) else (
      some (1, S)
    )
  ) else (
    some (0, S)
  )
  )
def x0_busy_4 (F : Nat) : Nat → Int32 → Int32 → sm_t → Option (Int32 × sm_t)
  | 0, _, _, _ => none
  | f + 1, l1, l2, S => sm_n (S.1 22 1) fun v1 =>
    if v1 ≤ l2 then (
      some (l1, S)
    ) else (
      sm_rd (fun i => 24 + i) 12 l2 fun a2 =>
      sm_on 5 a2 (
      sm_cI (x6_counts F a2 S) fun v3 S =>
      if v3 = 0 then (
        sm_n (l1 + 0 : Int32) fun v5 =>
        x0_busy_4 F f v5 (l2 + 1) S
      ) else (
        sm_n (l1 + 1 : Int32) fun v6 =>
        x0_busy_4 F f v6 (l2 + 1) S
      )
      )
    )
def x0_busy (F : Nat) (S : sm_t) : Option (Int32 × sm_t) :=
  x0_busy_4 F F 0 0 S
def x7_barred (F : Nat) (l1 : Int32) (l2 : Int32) (S : sm_t) : Option (Int32 × sm_t) :=
  sm_cI (x7_isMissing F l1 S) fun v1 S =>
  if v1 = 0 then (
    sm_cI (x0_busy F S) fun v2 S =>
    if v2 ≤ l2 then (
      some (0, S)
    ) else (
      some ((-6), S)
    )
  ) else (
    sm_cI (x7_found F 1 S) fun v3 S =>
    some (v3, S)
  )
def xA_fillJ_6 (F : Nat) : Nat → Nat → Int64 → Int32 → Int32 → sm_t → Option (sm_t)
  | 0, _, _, _, _, _ => none
  | f + 1, l0, l1, l3, l4, S => if l4 ≤ l3 then (
      some S
    ) else (
      sm_an (.long) l0 fun n2 =>
      sm_wl S l0 n2 l3 l1 fun S =>
      xA_fillJ_6 F f l0 l1 (l3 + 1) l4 S
    )
def xA_fillJ (F : Nat) (l0 : Nat) (l1 : Int64) (S : sm_t) : Option (sm_t) :=
  sm_an (.long) l0 fun n2 =>
  sm_n (Int32.ofNat n2 : Int32) fun v3 =>
  xA_fillJ_6 F F l0 l1 0 v3 S
def x2_weighsIn (F : Nat) (l1 : Int32) (l2 : Int32) (S : sm_t) : Option (Int32 × sm_t) :=
  if l1 = l2 then (
    some (0, S)
  ) else (
    sm_rd (fun i => 24 + i) 12 l1 fun a1 =>
    sm_on 5 a1 (
    sm_cI (x6_counts F a1 S) fun v2 S =>
    if v2 = 0 then (
      some (0, S)
    ) else (
      some (1, S)
    )
    )
  )
def x6_isByHour (F : Nat) (l0 : Nat) (S : sm_t) : Option (Int32 × sm_t) :=
  sm_on 5 l0 (
  sm_n (S.1 l0 0) fun v2 =>
  if v2 = 1 then (
    some (1, S)
  ) else (
    sm_n (S.1 l0 0) fun v3 =>
    if v3 = 2 then (
      some (1, S)
    ) else (
      some (0, S)
    )
  )
  )
def x2_weighAtLast_58 (F : Nat) (c10 : Int32 → Int32 → sm_t → Option (sm_t)) : Nat → Int32 → Int32 → Nat → Int32 → sm_t → Option (sm_t)
  | 0, _, _, _, _, _ => none
  | f + 1, l1, l2, l3, l4, S => if 120 ≤ l4 then (
      c10 l1 (l2 + 1) S
    ) else (
      sm_rd (S.2.1 44) 120 l4 fun v1 =>
      sm_on 5 l3 (
      sm_cI (x6_weight F l3 l4 S) fun v2 S =>
      sm_wl S 44 120 l4 (v1 * (v2.toInt64)) fun S =>
      x2_weighAtLast_58 F c10 f l1 l2 l3 (l4 + 1) S
      )
    )
def x2_weighAtLast_10 (F : Nat) : Nat → Int32 → Int32 → sm_t → Option (sm_t)
  | 0, _, _, _ => none
  | f + 1, l1, l2, S => sm_n (S.1 22 1) fun v1 =>
    if v1 ≤ l2 then (
      some S
    ) else (
      sm_rd (fun i => 24 + i) 12 l2 fun a2 =>
      sm_cI (x2_weighsIn F l2 l1 S) fun v3 S =>
      if v3 = 0 then (
        x2_weighAtLast_10 F f l1 (l2 + 1) S
      ) else (
        sm_on 5 a2 (
        sm_n (S.1 a2 0) fun v5 =>
        if v5 = 3 then (
          x2_weighAtLast_10 F f l1 (l2 + 1) S
        ) else (
          sm_cI (x6_isByHour F a2 S) fun v6 S =>
          if v6 = 0 then (
            x2_weighAtLast_58 F (x2_weighAtLast_10 F f) F l1 l2 a2 0 S
          ) else (
            x2_weighAtLast_10 F f l1 (l2 + 1) S
          )
        )
        )
      )
    )
def x2_weighAtLast (F : Nat) (l1 : Int32) (S : sm_t) : Option (sm_t) :=
  sm_cV (xA_fillJ F 44 1 S) fun S =>
  x2_weighAtLast_10 F F l1 0 S
def x2_weighByHour_53 (F : Nat) (c2 : Int32 → Int32 → Int32 → sm_t → Option (sm_t)) : Nat → Int32 → Int32 → Int32 → Nat → Int32 → sm_t → Option (sm_t)
  | 0, _, _, _, _, _, _ => none
  | f + 1, l1, l2, l3, l4, l5, S => if 120 ≤ l5 then (
      c2 l1 l2 (l3 + 1) S
    ) else (
      sm_n (S.2.2.1) fun a1 =>
      sm_an (.long) a1 fun n3 =>
      sm_rd (S.2.1 a1) n3 l5 fun v4 =>
      if v4 = 0 then (
        x2_weighByHour_53 F c2 f l1 l2 l3 l4 (l5 + 1) S
      ) else (
        sm_n (S.2.2.1) fun a5 =>
        sm_an (.long) a5 fun n7 =>
        sm_rd (S.2.1 a5) n7 l5 fun v8 =>
        sm_on 5 l4 (
        sm_cI (x6_weight F l4 l5 S) fun v9 S =>
        sm_wl S a5 n7 l5 (v8 * (v9.toInt64)) fun S =>
        x2_weighByHour_53 F c2 f l1 l2 l3 l4 (l5 + 1) S
        )
      )
    )
def x2_weighByHour_2 (F : Nat) : Nat → Int32 → Int32 → Int32 → sm_t → Option (sm_t)
  | 0, _, _, _, _ => none
  | f + 1, l1, l2, l3, S => sm_n (S.1 22 1) fun v1 =>
    if v1 ≤ l3 then (
      some S
    ) else (
      sm_rd (fun i => 24 + i) 12 l3 fun a2 =>
      sm_cI (x2_weighsIn F l3 l2 S) fun v3 S =>
      if v3 = 0 then (
        x2_weighByHour_2 F f l1 l2 (l3 + 1) S
      ) else (
        sm_on 5 a2 (
        sm_cI (x6_isByHour F a2 S) fun v4 S =>
        if v4 = 0 then (
          x2_weighByHour_2 F f l1 l2 (l3 + 1) S
        ) else (
          sm_n (S.1 a2 1) fun v6 =>
          if v6 = l1 then (
            x2_weighByHour_53 F (x2_weighByHour_2 F f) F l1 l2 l3 a2 0 S
          ) else (
            x2_weighByHour_2 F f l1 l2 (l3 + 1) S
          )
        )
        )
      )
    )
def x2_weighByHour (F : Nat) (l1 : Int32) (l2 : Int32) (S : sm_t) : Option (sm_t) :=
  x2_weighByHour_2 F F l1 l2 0 S
def x2_keepOnly (F : Nat) (l1 : Int32) (S : sm_t) : Option (sm_t) :=
  sm_n (S.2.2.1) fun a1 =>
  sm_an (.long) a1 fun n3 =>
  sm_rd (S.2.1 a1) n3 l1 fun v4 =>
  sm_n (S.2.2.1) fun a5 =>
  sm_cV (xA_fillJ F a5 0 S) fun S =>
  sm_n (S.2.2.1) fun a7 =>
  sm_an (.long) a7 fun n9 =>
  sm_wl S a7 n9 l1 v4 fun S =>
  some S
def x2_weightByEnd_26 (F : Nat) : Nat → Int32 → Int32 → Int64 → Int32 → sm_t → Option (Int64 × sm_t)
  | 0, _, _, _, _, _ => none
  | f + 1, l1, l2, l3, l5, S => sm_n (S.1 22 1) fun v1 =>
    if v1 ≤ l5 then (
      some (l3, S)
    ) else (
      sm_rd (fun i => 24 + i) 12 l5 fun a2 =>
      sm_cI (x2_weighsIn F l5 l2 S) fun v3 S =>
      if v3 = 0 then (
        x2_weightByEnd_26 F f l1 l2 l3 (l5 + 1) S
      ) else (
        sm_on 5 a2 (
        sm_n (S.1 a2 0) fun v5 =>
        if v5 = 3 then (
          sm_n (S.1 a2 1) fun v6 =>
          sm_cI (x6_burntWeight F (sm_ab (v6 - l1)) S) fun v7 S =>
          sm_n (l3 * (v7.toInt64) : Int64) fun v8 =>
          x2_weightByEnd_26 F f l1 l2 v8 (l5 + 1) S
        ) else (
          sm_cI (x6_isByHour F a2 S) fun v9 S =>
          if v9 = 0 then (
            x2_weightByEnd_26 F f l1 l2 l3 (l5 + 1) S
          ) else (
            sm_n (S.1 a2 1) fun v10 =>
            if v10 ≤ l1 then (
              x2_weightByEnd_26 F f l1 l2 l3 (l5 + 1) S
            ) else (
              sm_n (l3 * 12 : Int64) fun v11 =>
              x2_weightByEnd_26 F f l1 l2 v11 (l5 + 1) S
            )
          )
        )
        )
      )
    )
def x2_weightByEnd (F : Nat) (l1 : Int32) (l2 : Int32) (S : sm_t) : Option (Int64 × sm_t) :=
  sm_rd (S.1 21) 7 l1 fun v1 =>
  sm_n (S.1 19 1) fun v2 =>
  sm_n (sm_ls (v1.toInt64) (2 * (v2 - l1)) : Int64) fun v3 =>
  x2_weightByEnd_26 F F l1 l2 v3 0 S
def x2_land_13 (F : Nat) : Nat → Int64 → Int64 → Int32 → sm_t → Option (Int64 × sm_t)
  | 0, _, _, _, _ => none
  | f + 1, l3, l5, l7, S => if 120 ≤ l7 then (
      some (l5, S)
    ) else (
      if l3 = 0 then (
        some (l5, S)
      ) else (
        sm_n (S.2.2.1) fun a1 =>
        sm_an (.long) a1 fun n3 =>
        sm_rd (S.2.1 a1) n3 l7 fun v4 =>
        if v4 = 0 then (
          x2_land_13 F f l3 l5 (l7 + 1) S
        ) else (
          sm_n (S.2.2.1) fun a5 =>
          sm_an (.long) a5 fun n7 =>
          sm_rd (S.2.1 a5) n7 l7 fun v8 =>
          sm_rd (S.2.1 44) 120 l7 fun v9 =>
          sm_n ((v8 * l3) * v9 : Int64) fun v10 =>
          sm_rd (S.2.1 40) 120 l7 fun v11 =>
          sm_wl S 40 120 l7 (v11 + v10) fun S =>
          sm_n (l5 + v10 : Int64) fun v12 =>
          x2_land_13 F f l3 v12 (l7 + 1) S
        )
      )
    )
def x2_land (F : Nat) (l1 : Int32) (l2 : Int32) (S : sm_t) : Option (Int64 × sm_t) :=
  sm_cL (x2_weightByEnd F l1 l2 S) fun v1 S =>
  x2_land_13 F F v1 0 0 S
def x1_gone (F : Nat) (l0 : Int32) (l1 : Int32) (S : sm_t) : Option (Int32 × sm_t) :=
  sm_cI (x1_beside F l0 l1 S) fun v1 S =>
  if v1 = (-9) then (
    some (l0, S)
  ) else (
    some (v1, S)
  )
def x1_turned (F : Nat) (l0 : Int32) (l1 : Int32) (S : sm_t) : Option (Int32 × sm_t) :=
  some ((l0 + l1) &&& 7, S)
def x2_spread_102 (F : Nat) (S : sm_t) : Option (sm_t) :=
  sm_n (S.2.2.1) fun a1 =>
  sm_n (S.2.2.2.1) fun a2 =>
  sm_n ((S.1, S.2.1, a2, S.2.2.2) : sm_t) fun S =>
  sm_n ((S.1, S.2.1, S.2.2.1, a1, S.2.2.2.2) : sm_t) fun S =>
  some S
def x2_spread_10 (F : Nat) : Nat → Int32 → Int32 → sm_t → Option (sm_t)
  | 0, _, _, _ => none
  | f + 1, l1, l2, S => if 120 ≤ l2 then (
      x2_spread_102 F S
    ) else (
      sm_n (S.2.2.1) fun a1 =>
      sm_an (.long) a1 fun n3 =>
      sm_rd (S.2.1 a1) n3 l2 fun v4 =>
      if v4 = 0 then (
        x2_spread_10 F f l1 (l2 + 1) S
      ) else (
        sm_n (S.2.2.2.1) fun a5 =>
        sm_cI (x1_gone F l2 l1 S) fun v6 S =>
        sm_an (.long) a5 fun n8 =>
        sm_rd (S.2.1 a5) n8 v6 fun v9 =>
        sm_n (S.2.2.1) fun a10 =>
        sm_an (.long) a10 fun n12 =>
        sm_rd (S.2.1 a10) n12 l2 fun v13 =>
        sm_wl S a5 n8 v6 (v9 + (2 * v13)) fun S =>
        sm_n (S.2.2.2.1) fun a14 =>
        sm_cI (x1_turned F l1 (-1) S) fun v15 S =>
        sm_cI (x1_gone F l2 v15 S) fun v16 S =>
        sm_an (.long) a14 fun n18 =>
        sm_rd (S.2.1 a14) n18 v16 fun v19 =>
        sm_n (S.2.2.1) fun a20 =>
        sm_an (.long) a20 fun n22 =>
        sm_rd (S.2.1 a20) n22 l2 fun v23 =>
        sm_wl S a14 n18 v16 (v19 + v23) fun S =>
        sm_n (S.2.2.2.1) fun a24 =>
        sm_cI (x1_turned F l1 1 S) fun v25 S =>
        sm_cI (x1_gone F l2 v25 S) fun v26 S =>
        sm_an (.long) a24 fun n28 =>
        sm_rd (S.2.1 a24) n28 v26 fun v29 =>
        sm_n (S.2.2.1) fun a30 =>
        sm_an (.long) a30 fun n32 =>
        sm_rd (S.2.1 a30) n32 l2 fun v33 =>
        sm_wl S a24 n28 v26 (v29 + v33) fun S =>
        x2_spread_10 F f l1 (l2 + 1) S
      )
    )
def x2_spread (F : Nat) (l1 : Int32) (S : sm_t) : Option (sm_t) :=
  sm_n (S.2.2.2.1) fun a1 =>
  sm_cV (xA_fillJ F a1 0 S) fun S =>
  x2_spread_10 F F l1 0 S
def x2_weighFlight_110 (F : Nat) (c48 : Int32 → Int32 → Int32 → Int64 → Int32 → sm_t → Option (Int64 × sm_t)) (l1 : Int32) (l2 : Int32) (l3 : Int32) (l4 : Int64) (l6 : Int32) (S : sm_t) : Option (Int64 × sm_t) :=
  sm_n (S.1 19 1) fun v1 =>
  if v1 ≤ l6 then (
    c48 l1 l2 l3 l4 (l6 + 1) S
  ) else (
    sm_rd (S.1 20) 6 l6 fun v2 =>
    sm_cV (x2_spread F v2 S) fun S =>
    c48 l1 l2 l3 l4 (l6 + 1) S
  )
def x2_weighFlight_78 (F : Nat) (c48 : Int32 → Int32 → Int32 → Int64 → Int32 → sm_t → Option (Int64 × sm_t)) (l1 : Int32) (l2 : Int32) (l3 : Int32) (l4 : Int64) (l6 : Int32) (S : sm_t) : Option (Int64 × sm_t) :=
  if l6 < l2 then (
    x2_weighFlight_110 F c48 l1 l2 l3 l4 l6 S
  ) else (
    sm_cL (x2_land F l6 l1 S) fun v1 S =>
    sm_wl S 41 7 l6 v1 fun S =>
    sm_rd (S.2.1 41) 7 l6 fun v2 =>
    sm_n (l4 + v2 : Int64) fun v3 =>
    x2_weighFlight_110 F c48 l1 l2 l3 v3 l6 S
  )
def x2_weighFlight_48 (F : Nat) : Nat → Int32 → Int32 → Int32 → Int64 → Int32 → sm_t → Option (Int64 × sm_t)
  | 0, _, _, _, _, _, _ => none
  | f + 1, l1, l2, l3, l4, l6, S => sm_n (S.1 19 1) fun v1 =>
    if v1 < l6 then (
      some (l4, S)
    ) else (
      sm_cV (x2_weighByHour F l6 l1 S) fun S =>
      if l6 = l2 then (
        sm_cV (x2_keepOnly F l3 S) fun S =>
        x2_weighFlight_78 F (x2_weighFlight_48 F f) l1 l2 l3 l4 l6 S
      ) else (
        x2_weighFlight_78 F (x2_weighFlight_48 F f) l1 l2 l3 l4 l6 S
      )
    )
def x2_weighFlight (F : Nat) (l1 : Int32) (l2 : Int32) (l3 : Int32) (S : sm_t) : Option (Int64 × sm_t) :=
  sm_cV (xA_fillJ F 40 0 S) fun S =>
  sm_cV (xA_fillJ F 41 0 S) fun S =>
  sm_n (S.2.2.1) fun a3 =>
  sm_cV (xA_fillJ F a3 0 S) fun S =>
  sm_n (S.2.2.1) fun a5 =>
  sm_n (S.1 19 0) fun v6 =>
  sm_an (.long) a5 fun n8 =>
  sm_wl S a5 n8 v6 1 fun S =>
  sm_cV (x2_weighAtLast F l1 S) fun S =>
  x2_weighFlight_48 F F l1 l2 l3 0 0 S
def x2_weighText_97 (F : Nat) (c5 : Nat → Int32 → Int64 → Int32 → sm_t → Option (Int64 × sm_t)) (l1 : Nat) (l2 : Int32) (l3 : Int64) (l5 : Int32) (l6 : Int64) (S : sm_t) : Option (Int64 × sm_t) :=
  sm_wl S 40 120 l5 l6 fun S =>
  sm_n (l3 + l6 : Int64) fun v1 =>
  c5 l1 l2 v1 (l5 + 1) S
def x2_weighText_22 (F : Nat) (c5 : Nat → Int32 → Int64 → Int32 → sm_t → Option (Int64 × sm_t)) : Nat → Nat → Int32 → Int64 → Int32 → Int64 → Int32 → sm_t → Option (Int64 × sm_t)
  | 0, _, _, _, _, _, _, _ => none
  | f + 1, l1, l2, l3, l5, l6, l8, S => sm_n (S.1 22 1) fun v1 =>
    if v1 ≤ l8 then (
      x2_weighText_97 F c5 l1 l2 l3 l5 l6 S
    ) else (
      if l6 = 0 then (
        x2_weighText_97 F c5 l1 l2 l3 l5 l6 S
      ) else (
        sm_cI (x2_weighsIn F l8 l2 S) fun v2 S =>
        if v2 = 0 then (
          x2_weighText_22 F c5 f l1 l2 l3 l5 l6 (l8 + 1) S
        ) else (
          sm_rd (fun i => 24 + i) 12 l8 fun a3 =>
          sm_on 5 a3 (
          sm_n (S.1 a3 0) fun v5 =>
          if v5 = 3 then (
            sm_n (l6 * 12 : Int64) fun v6 =>
            x2_weighText_22 F c5 f l1 l2 l3 l5 v6 (l8 + 1) S
          ) else (
            sm_cI (x6_weight F a3 l5 S) fun v7 S =>
            sm_n (l6 * (v7.toInt64) : Int64) fun v8 =>
            x2_weighText_22 F c5 f l1 l2 l3 l5 v8 (l8 + 1) S
          )
          )
        )
      )
    )
def x2_weighText_5 (F : Nat) : Nat → Nat → Int32 → Int64 → Int32 → sm_t → Option (Int64 × sm_t)
  | 0, _, _, _, _, _ => none
  | f + 1, l1, l2, l3, l5, S => if 120 ≤ l5 then (
      some (l3, S)
    ) else (
      sm_an (.int) l1 fun n2 =>
      sm_rd (S.1 l1) n2 l5 fun v3 =>
      sm_n (v3.toInt64 : Int64) fun v4 =>
      x2_weighText_22 F (x2_weighText_5 F f) F l1 l2 l3 l5 v4 0 S
    )
def x2_weighText (F : Nat) (l1 : Nat) (l2 : Int32) (S : sm_t) : Option (Int64 × sm_t) :=
  x2_weighText_5 F F l1 l2 0 0 S
def x2_weigh (F : Nat) (l1 : Int32) (l2 : Int32) (S : sm_t) : Option (Int64 × sm_t) :=
  if l1 = 0 then (
    sm_cL (x2_weighFlight F l2 (-9) (-9) S) fun v1 S =>
    sm_n (sm_wL S 18 5 v1) fun S =>
    sm_n (S.2.1 18 5) fun v2 =>
    some (v2, S)
  ) else (
    sm_rd (fun i => 37 + i) 3 (l1 - 1) fun a3 =>
    sm_cL (x2_weighText F a3 l2 S) fun v4 S =>
    sm_n (sm_wL S 18 5 v4) fun S =>
    sm_n (S.2.1 18 5) fun v5 =>
    some (v5, S)
  )
def x7_weighed (F : Nat) (l1 : Int32) (S : sm_t) : Option (Int32 × sm_t) :=
  sm_cI (x7_barred F l1 6 S) fun v1 S =>
  if v1 = 0 then (
    sm_cL (x2_weigh F l1 (-9) S) fun v2 S =>
    if v2 ≤ 0 then (
      sm_cI (x7_found F 4 S) fun v3 S =>
      some (v3, S)
    ) else (
      some (0, S)
    )
  ) else (
    some (v1, S)
  )
def x7_greatestDivisor_9 (F : Nat) : Nat → Int64 → Int64 → Int32 → sm_t → Option (Int64 × sm_t)
  | 0, _, _, _, _ => none
  | f + 1, l4, l6, l8, S => if 100 ≤ l8 then (
      some (l4, S)
    ) else (
      if l6 = 0 then (
        some (l4, S)
      ) else (
        if l6 = 0 then none else
        sm_n (sm_lr l4 l6 : Int64) fun v2 =>
        x7_greatestDivisor_9 F f l6 v2 (l8 + 1) S
      )
    )
def x7_greatestDivisor (F : Nat) (l0 : Int64) (l2 : Int64) (S : sm_t) : Option (Int64 × sm_t) :=
  x7_greatestDivisor_9 F F l0 l2 0 S
def x7_fraction (F : Nat) (l1 : Int64) (l3 : Int64) (S : sm_t) : Option (sm_t) :=
  sm_cL (x7_greatestDivisor F (sm_al l1) l3 S) fun v1 S =>
  if v1 ≤ 0 then (
    some S
  ) else (
    if v1 = 0 then none else
    sm_n (sm_wL S 3 12 (l1 / v1)) fun S =>
    if v1 = 0 then none else
    sm_n (sm_wL S 3 13 (l3 / v1)) fun S =>
    some S
  )
def x7_where (F : Nat) (l1 : Int32) (l2 : Int32) (S : sm_t) : Option (Int32 × sm_t) :=
  sm_cI (x7_isStory F l1 S) fun v1 S =>
  if v1 = 0 then (
    some ((-1), S)
  ) else (
    sm_cI (x1_isCell F l2 S) fun v2 S =>
    if v2 = 0 then (
      some ((-1), S)
    ) else (
      sm_cI (x7_weighed F l1 S) fun v3 S =>
      if v3 = 0 then (
        sm_rd (S.2.1 40) 120 l2 fun v4 =>
        sm_n (S.2.1 18 5) fun v5 =>
        sm_cV (x7_fraction F v4 v5 S) fun S =>
        some (1, S)
      ) else (
        some (v3, S)
      )
    )
  )
def x8_askedStory (F : Nat) (l1 : Int32) (S : sm_t) : Option (Int32 × sm_t) :=
  sm_cI (x8_in F l1 0 3 S) fun v1 S =>
  if v1 = 0 then (
    some ((-1), S)
  ) else (
    if l1 ≤ 0 then (
      some (0, S)
    ) else (
      sm_rd (S.1 60) 4 l1 fun v2 =>
      if v2 = 0 then (
        sm_cI (x8_meets F 1 S) fun v3 S =>
        some (v3, S)
      ) else (
        some (0, S)
      )
    )
  )
def x8_counts (F : Nat) (l1 : Int32) (S : sm_t) : Option (Int32 × sm_t) :=
  sm_n (S.1 52 19) fun v1 =>
  if l1 = v1 then (
    some (0, S)
  ) else (
    sm_cI (x8_tell F l1 4 S) fun v2 S =>
    if v2 = 0 then (
      sm_cI (x8_tell F l1 0 S) fun v3 S =>
      if v3 = 0 then (
        some (0, S)
      ) else (
        some (1, S)
      )
    ) else (
      some (0, S)
    )
  )
def x8_counted_4 (F : Nat) : Nat → Int32 → Int32 → sm_t → Option (Int32 × sm_t)
  | 0, _, _, _ => none
  | f + 1, l1, l2, S => sm_n (S.1 52 17) fun v1 =>
    if v1 ≤ l2 then (
      some (l1, S)
    ) else (
      sm_cI (x8_counts F l2 S) fun v2 S =>
      if v2 = 0 then (
        sm_n (l1 + 0 : Int32) fun v3 =>
        x8_counted_4 F f v3 (l2 + 1) S
      ) else (
        sm_n (l1 + 1 : Int32) fun v4 =>
        x8_counted_4 F f v4 (l2 + 1) S
      )
    )
def x8_counted (F : Nat) (S : sm_t) : Option (Int32 × sm_t) :=
  x8_counted_4 F F 0 0 S
def x8_isByHour (F : Nat) (l0 : Int32) (S : sm_t) : Option (Int32 × sm_t) :=
  if l0 = 1 then (
    some (1, S)
  ) else (
    if l0 = 2 then (
      some (1, S)
    ) else (
      some (0, S)
    )
  )
def x8_hourWeight_5 (F : Nat) : Nat → Int32 → Int32 → Int64 → Int32 → sm_t → Option (Int64 × sm_t)
  | 0, _, _, _, _, _ => none
  | f + 1, l1, l2, l3, l5, S => sm_n (S.1 52 17) fun v1 =>
    if v1 ≤ l5 then (
      some (l3, S)
    ) else (
      sm_cI (x8_counts F l5 S) fun v2 S =>
      if v2 = 0 then (
        sm_n (l3 * 1 : Int64) fun v3 =>
        x8_hourWeight_5 F f l1 l2 v3 (l5 + 1) S
      ) else (
        sm_cI (x8_tell F l5 0 S) fun v4 S =>
        sm_cI (x8_isByHour F v4 S) fun v5 S =>
        if v5 = 0 then (
          sm_n (l3 * 1 : Int64) fun v6 =>
          x8_hourWeight_5 F f l1 l2 v6 (l5 + 1) S
        ) else (
          sm_cI (x8_tell F l5 1 S) fun v7 S =>
          if v7 = l1 then (
            sm_cI (x8_weight F l5 l2 S) fun v8 S =>
            sm_n (l3 * (v8.toInt64) : Int64) fun v9 =>
            x8_hourWeight_5 F f l1 l2 v9 (l5 + 1) S
          ) else (
            sm_n (l3 * 1 : Int64) fun v10 =>
            x8_hourWeight_5 F f l1 l2 v10 (l5 + 1) S
          )
        )
      )
    )
def x8_hourWeight (F : Nat) (l1 : Int32) (l2 : Int32) (S : sm_t) : Option (Int64 × sm_t) :=
  x8_hourWeight_5 F F l1 l2 1 0 S
def x8_turned (F : Nat) (l0 : Int32) (l1 : Int32) (S : sm_t) : Option (Int32 × sm_t) :=
  some (sm_ir ((l0 + l1) + 8) 8, S)
def x8_goesTo (F : Nat) (l0 : Int32) (l1 : Int32) (S : sm_t) : Option (Int32 × sm_t) :=
  sm_cI (x8_nextOf F l0 l1 S) fun v1 S =>
  if 0 ≤ v1 then (
    some (v1, S)
  ) else (
    some (l0, S)
  )
def x8_setCome_77 (F : Nat) (c56 : Int32 → Int32 → sm_t → Option (sm_t)) : Nat → Int32 → Int32 → Int64 → Int32 → sm_t → Option (sm_t)
  | 0, _, _, _, _, _ => none
  | f + 1, l1, l2, l3, l5, S => if 2 ≤ l5 then (
      c56 l1 (l2 + 1) S
    ) else (
      if l3 ≤ 0 then (
        c56 l1 (l2 + 1) S
      ) else (
        sm_cI (x8_courseOf F l1 S) fun v1 S =>
        sm_cI (x8_turned F v1 l5 S) fun v2 S =>
        sm_cI (x8_goesTo F l2 v2 S) fun v3 S =>
        sm_rd (S.2.1 64) 840 ((120 * (l1 + 1)) + v3) fun v4 =>
        if l5 = 0 then (
          sm_cL (x8_hourWeight F (l1 + 1) v3 S) fun v5 S =>
          sm_wl S 64 840 ((120 * (l1 + 1)) + v3) (v4 + ((l3 * 2) * v5)) fun S =>
          x8_setCome_77 F c56 f l1 l2 l3 (l5 + 1) S
        ) else (
          sm_cL (x8_hourWeight F (l1 + 1) v3 S) fun v6 S =>
          sm_wl S 64 840 ((120 * (l1 + 1)) + v3) (v4 + ((l3 * 1) * v6)) fun S =>
          x8_setCome_77 F c56 f l1 l2 l3 (l5 + 1) S
        )
      )
    )
def x8_setCome_56 (F : Nat) (c46 : Int32 → sm_t → Option (sm_t)) : Nat → Int32 → Int32 → sm_t → Option (sm_t)
  | 0, _, _, _ => none
  | f + 1, l1, l2, S => if 120 ≤ l2 then (
      c46 (l1 + 1) S
    ) else (
      sm_rd (S.2.1 64) 840 ((120 * l1) + l2) fun v1 =>
      x8_setCome_77 F (x8_setCome_56 F c46 f) F l1 l2 v1 (-1) S
    )
def x8_setCome_46 (F : Nat) : Nat → Int32 → sm_t → Option (sm_t)
  | 0, _, _ => none
  | f + 1, l1, S => sm_cI (x8_hours F S) fun v1 S =>
    if v1 ≤ l1 then (
      some S
    ) else (
      x8_setCome_56 F (x8_setCome_46 F f) F l1 0 S
    )
def x8_setCome_22 (F : Nat) (S : sm_t) : Option (sm_t) :=
  sm_rd (S.1 59) 15 0 fun v1 =>
  sm_rd (S.1 59) 15 0 fun v2 =>
  sm_cL (x8_hourWeight F 0 v2 S) fun v3 S =>
  sm_wl S 64 840 v1 v3 fun S =>
  x8_setCome_46 F F 0 S
def x8_setCome_2 (F : Nat) : Nat → Int32 → sm_t → Option (sm_t)
  | 0, _, _ => none
  | f + 1, l1, S => if 840 ≤ l1 then (
      x8_setCome_22 F S
    ) else (
      sm_wl S 64 840 l1 0 fun S =>
      x8_setCome_2 F f (l1 + 1) S
    )
def x8_setCome (F : Nat) (S : sm_t) : Option (sm_t) :=
  x8_setCome_2 F F 0 S
def x8_endOf (F : Nat) (l1 : Int32) (S : sm_t) : Option (Int32 × sm_t) :=
  sm_rd (S.1 59) 15 (8 + l1) fun v1 =>
  some (v1, S)
def x8_endWeight_74 (F : Nat) (c5 : Int32 → Int32 → Int64 → Int32 → sm_t → Option (Int64 × sm_t)) (l1 : Int32) (l2 : Int32) (l3 : Int64) (l5 : Int32) (t0 : Int32) (S : sm_t) : Option (Int64 × sm_t) :=
  sm_cI (x8_counts F l5 S) fun v1 S =>
  if v1 = 0 then (
    sm_n (l3 * 1 : Int64) fun v2 =>
    c5 l1 l2 v2 (l5 + 1) S
  ) else (
    sm_n (l3 * (t0.toInt64) : Int64) fun v3 =>
    c5 l1 l2 v3 (l5 + 1) S
  )
def x8_endWeight_125 (F : Nat) (l1 : Int32) (l3 : Int64) (S : sm_t) : Option (Int64 × sm_t) :=
  sm_cI (x8_endOf F l1 S) fun v1 S =>
  some (l3 * (v1.toInt64), S)
def x8_endWeight_104 (F : Nat) : Nat → Int32 → Int64 → Int32 → sm_t → Option (Int64 × sm_t)
  | 0, _, _, _, _ => none
  | f + 1, l1, l3, l5, S => sm_cI (x8_hours F S) fun v1 S =>
    if v1 ≤ l5 then (
      x8_endWeight_125 F l1 l3 S
    ) else (
      sm_n (l3 * 4 : Int64) fun v2 =>
      x8_endWeight_104 F f l1 v2 (l5 + 1) S
    )
def x8_endWeight_5 (F : Nat) : Nat → Int32 → Int32 → Int64 → Int32 → sm_t → Option (Int64 × sm_t)
  | 0, _, _, _, _, _ => none
  | f + 1, l1, l2, l3, l5, S => sm_n (S.1 52 17) fun v1 =>
    if v1 ≤ l5 then (
      x8_endWeight_104 F F l1 l3 l1 S
    ) else (
      sm_cI (x8_tell F l5 0 S) fun v2 S =>
      if v2 = 3 then (
        sm_cI (x8_weight F l5 l1 S) fun v3 S =>
        x8_endWeight_74 F (x8_endWeight_5 F f) l1 l2 l3 l5 v3 S
      ) else (
        sm_cI (x8_isByHour F v2 S) fun v4 S =>
        if v4 = 0 then (
          sm_cI (x8_weight F l5 l2 S) fun v5 S =>
          x8_endWeight_74 F (x8_endWeight_5 F f) l1 l2 l3 l5 v5 S
        ) else (
          sm_cI (x8_tell F l5 1 S) fun v6 S =>
          if v6 ≤ l1 then (
            x8_endWeight_74 F (x8_endWeight_5 F f) l1 l2 l3 l5 1 S
          ) else (
            x8_endWeight_74 F (x8_endWeight_5 F f) l1 l2 l3 l5 12 S
          )
        )
      )
    )
def x8_endWeight (F : Nat) (l1 : Int32) (l2 : Int32) (S : sm_t) : Option (Int64 × sm_t) :=
  x8_endWeight_5 F F l1 l2 1 0 S
def x8_weightOf_5 (F : Nat) : Nat → Int32 → Int64 → Int32 → sm_t → Option (Int64 × sm_t)
  | 0, _, _, _, _ => none
  | f + 1, l1, l2, l4, S => sm_n (S.1 52 17) fun v1 =>
    if v1 ≤ l4 then (
      some (l2, S)
    ) else (
      sm_cI (x8_counts F l4 S) fun v2 S =>
      if v2 = 0 then (
        sm_n (l2 * 1 : Int64) fun v3 =>
        x8_weightOf_5 F f l1 v3 (l4 + 1) S
      ) else (
        sm_cI (x8_tell F l4 0 S) fun v4 S =>
        if v4 = 3 then (
          sm_n (l2 * 12 : Int64) fun v5 =>
          x8_weightOf_5 F f l1 v5 (l4 + 1) S
        ) else (
          sm_cI (x8_weight F l4 l1 S) fun v6 S =>
          sm_n (l2 * (v6.toInt64) : Int64) fun v7 =>
          x8_weightOf_5 F f l1 v7 (l4 + 1) S
        )
      )
    )
def x8_weightOf (F : Nat) (l1 : Int32) (S : sm_t) : Option (Int64 × sm_t) :=
  x8_weightOf_5 F F l1 1 0 S
def x8_setEnding_83 (F : Nat) (c15 : Int32 → Int32 → sm_t → Option (sm_t)) (l1 : Int32) (l2 : Int32) (l3 : Int64) (S : sm_t) : Option (sm_t) :=
  if l1 = 0 then (
    sm_wl S 66 120 l2 l3 fun S =>
    sm_n (S.2.1 52 23) fun v1 =>
    sm_rd (S.2.1 66) 120 l2 fun v2 =>
    sm_n (sm_wL S 52 23 (v1 + v2)) fun S =>
    c15 l1 (l2 + 1) S
  ) else (
    sm_rd (S.1 61) 480 ((120 * l1) + l2) fun v3 =>
    sm_cL (x8_weightOf F l2 S) fun v4 S =>
    sm_wl S 66 120 l2 ((v3.toInt64) * v4) fun S =>
    sm_n (S.2.1 52 23) fun v5 =>
    sm_rd (S.2.1 66) 120 l2 fun v6 =>
    sm_n (sm_wL S 52 23 (v5 + v6)) fun S =>
    c15 l1 (l2 + 1) S
  )
def x8_setEnding_26 (F : Nat) (c15 : Int32 → Int32 → sm_t → Option (sm_t)) : Nat → Int32 → Int32 → Int64 → Int32 → sm_t → Option (sm_t)
  | 0, _, _, _, _, _ => none
  | f + 1, l1, l2, l3, l5, S => sm_cI (x8_hours F S) fun v1 S =>
    if v1 < l5 then (
      x8_setEnding_83 F c15 l1 l2 l3 S
    ) else (
      if l1 = 0 then (
        sm_rd (S.2.1 64) 840 ((120 * l5) + l2) fun v2 =>
        if v2 = 0 then (
          sm_n (l3 + 0 : Int64) fun v3 =>
          x8_setEnding_26 F c15 f l1 l2 v3 (l5 + 1) S
        ) else (
          sm_cL (x8_endWeight F l5 l2 S) fun v4 S =>
          sm_n (l3 + (v2 * v4) : Int64) fun v5 =>
          x8_setEnding_26 F c15 f l1 l2 v5 (l5 + 1) S
        )
      ) else (
        x8_setEnding_83 F c15 l1 l2 l3 S
      )
    )
def x8_setEnding_15 (F : Nat) : Nat → Int32 → Int32 → sm_t → Option (sm_t)
  | 0, _, _, _ => none
  | f + 1, l1, l2, S => if 120 ≤ l2 then (
      some S
    ) else (
      x8_setEnding_26 F (x8_setEnding_15 F f) F l1 l2 0 0 S
    )
def x8_setEnding (F : Nat) (l1 : Int32) (S : sm_t) : Option (sm_t) :=
  sm_n (sm_wL S 52 23 0) fun S =>
  if l1 = 0 then (
    sm_cV (x8_setCome F S) fun S =>
    x8_setEnding_15 F F l1 0 S
  ) else (
    x8_setEnding_15 F F l1 0 S
  )
def x8_weigh (F : Nat) (l1 : Int32) (S : sm_t) : Option (Int32 × sm_t) :=
  sm_cI (x8_askedStory F l1 S) fun v1 S =>
  if 0 ≤ v1 then (
    sm_cI (x8_counted F S) fun v2 S =>
    if v2 ≤ 6 then (
      sm_cV (x8_setEnding F l1 S) fun S =>
      sm_n (S.2.1 52 23) fun v4 =>
      if v4 = 0 then (
        sm_cI (x8_meets F 4 S) fun v5 S =>
        some (v5, S)
      ) else (
        some (0, S)
      )
    ) else (
      some ((-6), S)
    )
  ) else (
    some (v1, S)
  )
def x8_part_42 (F : Nat) (l1 : Int64) (l3 : Int64) (l5 : Int32) (l6 : Int64) (S : sm_t) : Option (Int32 × sm_t) :=
  if l6 = 0 then none else
  sm_n (sm_wL S 52 3 (l1 / l6)) fun S =>
  if l6 = 0 then none else
  sm_n (sm_wL S 52 4 (l3 / l6)) fun S =>
  some (l5, S)
def x8_part_17 (F : Nat) : Nat → Int64 → Int64 → Int32 → Int64 → Int64 → sm_t → Option (Int32 × sm_t)
  | 0, _, _, _, _, _, _ => none
  | f + 1, l1, l3, l5, l6, l8, S => if l8 = 0 then (
      x8_part_42 F l1 l3 l5 l6 S
    ) else (
      if l8 = 0 then none else
      sm_n (sm_lr l6 l8 : Int64) fun v2 =>
      x8_part_17 F f l1 l3 l5 l8 v2 S
    )
def x8_part (F : Nat) (l1 : Int64) (l3 : Int64) (l5 : Int32) (S : sm_t) : Option (Int32 × sm_t) :=
  if 0 ≤ l1 then (
    x8_part_17 F F l1 l3 l5 l1 l3 S
  ) else (
    sm_n (-l1 : Int64) fun v1 =>
    x8_part_17 F F l1 l3 l5 v1 l3 S
  )
def x8_where (F : Nat) (l1 : Int32) (l2 : Int32) (S : sm_t) : Option (Int32 × sm_t) :=
  sm_cI (x8_isCell F l2 S) fun v1 S =>
  if v1 = 0 then (
    some ((-1), S)
  ) else (
    sm_cI (x8_weigh F l1 S) fun v2 S =>
    if 0 ≤ v2 then (
      sm_rd (S.2.1 66) 120 l2 fun v3 =>
      sm_n (S.2.1 52 23) fun v4 =>
      sm_cI (x8_part F v3 v4 1 S) fun v5 S =>
      some (v5, S)
    ) else (
      some (v2, S)
    )
  )
def x2_greatest_4 (F : Nat) : Nat → Int32 → Int32 → sm_t → Option (Int32 × sm_t)
  | 0, _, _, _ => none
  | f + 1, l1, l2, S => if 120 ≤ l2 then (
      some (l1, S)
    ) else (
      sm_rd (S.2.1 40) 120 l2 fun v1 =>
      sm_rd (S.2.1 40) 120 l1 fun v2 =>
      if v1 ≤ v2 then (
        x2_greatest_4 F f l1 (l2 + 1) S
      ) else (
        x2_greatest_4 F f l2 (l2 + 1) S
      )
    )
def x2_greatest (F : Nat) (S : sm_t) : Option (Int32 × sm_t) :=
  x2_greatest_4 F F 0 1 S
def x7_most (F : Nat) (l1 : Int32) (S : sm_t) : Option (Int32 × sm_t) :=
  sm_cI (x7_isStory F l1 S) fun v1 S =>
  if v1 = 0 then (
    some ((-1), S)
  ) else (
    sm_cI (x7_weighed F l1 S) fun v2 S =>
    if v2 = 0 then (
      sm_cI (x2_greatest F S) fun v3 S =>
      sm_rd (S.2.1 40) 120 v3 fun v4 =>
      sm_n (S.2.1 18 5) fun v5 =>
      sm_cV (x7_fraction F v4 v5 S) fun S =>
      some (v3, S)
    ) else (
      some (v2, S)
    )
  )
def x8_mostOf_4 (F : Nat) : Nat → Int32 → Int32 → sm_t → Option (Int32 × sm_t)
  | 0, _, _, _ => none
  | f + 1, l1, l2, S => if 120 ≤ l2 then (
      some (l1, S)
    ) else (
      sm_rd (S.2.1 66) 120 l2 fun v1 =>
      sm_rd (S.2.1 66) 120 l1 fun v2 =>
      if v1 ≤ v2 then (
        x8_mostOf_4 F f l1 (l2 + 1) S
      ) else (
        x8_mostOf_4 F f l2 (l2 + 1) S
      )
    )
def x8_mostOf (F : Nat) (S : sm_t) : Option (Int32 × sm_t) :=
  x8_mostOf_4 F F 0 1 S
def x8_most (F : Nat) (l1 : Int32) (S : sm_t) : Option (Int32 × sm_t) :=
  sm_cI (x8_weigh F l1 S) fun v1 S =>
  if 0 ≤ v1 then (
    sm_cI (x8_mostOf F S) fun v2 S =>
    sm_rd (S.2.1 66) 120 v2 fun v3 =>
    sm_n (S.2.1 52 23) fun v4 =>
    sm_cI (x8_mostOf F S) fun v5 S =>
    sm_cI (x8_part F v3 v4 v5 S) fun v6 S =>
    some (v6, S)
  ) else (
    some (v1, S)
  )
def x7_sure_51 (F : Nat) : Nat → Int32 → Int32 → Int32 → Int32 → Int32 → sm_t → Option (Int32 × sm_t)
  | 0, _, _, _, _, _, _ => none
  | f + 1, l2, l3, l5, l6, l7, S => if l7 < 0 then (
      sm_n (sm_wI S 3 11 l6) fun S =>
      some (l5, S)
    ) else (
      sm_rd (S.2.1 40) 120 l7 fun v1 =>
      sm_n (S.2.1 18 5) fun v2 =>
      if v1 * (l3.toInt64) < v2 * (l2.toInt64) then (
        x7_sure_51 F f l2 l3 l5 l6 (l7 + (-1)) S
      ) else (
        x7_sure_51 F f l2 l3 (l5 + 1) l7 (l7 + (-1)) S
      )
    )
def x7_sure (F : Nat) (l1 : Int32) (l2 : Int32) (l3 : Int32) (S : sm_t) : Option (Int32 × sm_t) :=
  sm_cI (x7_isStory F l1 S) fun v1 S =>
  if v1 = 0 then (
    some ((-1), S)
  ) else (
    if l2 < 1 then (
      some ((-1), S)
    ) else (
      if 99 < l3 then (
        some ((-1), S)
      ) else (
        if l2 ≤ l3 then (
          sm_cI (x7_weighed F l1 S) fun v2 S =>
          if v2 = 0 then (
            x7_sure_51 F F l2 l3 0 (-9) 119 S
          ) else (
            some (v2, S)
          )
        ) else (
          some ((-1), S)
        )
      )
    )
  )
def x8_sure_47 (F : Nat) : Nat → Int32 → Int32 → Int32 → Int32 → Int32 → sm_t → Option (Int32 × sm_t)
  | 0, _, _, _, _, _, _ => none
  | f + 1, l2, l3, l5, l6, l7, S => if l7 < 0 then (
      sm_cI (x8_ask F l6 l5 S) fun v1 S =>
      some (v1, S)
    ) else (
      sm_rd (S.2.1 66) 120 l7 fun v2 =>
      sm_n (S.2.1 52 23) fun v3 =>
      if v2 * (l3.toInt64) < v3 * (l2.toInt64) then (
        x8_sure_47 F f l2 l3 l5 l6 (l7 + (-1)) S
      ) else (
        x8_sure_47 F f l2 l3 (l5 + 1) l7 (l7 + (-1)) S
      )
    )
def x8_sure (F : Nat) (l1 : Int32) (l2 : Int32) (l3 : Int32) (S : sm_t) : Option (Int32 × sm_t) :=
  sm_cI (x8_in F l3 1 99 S) fun v1 S =>
  if v1 = 0 then (
    some ((-1), S)
  ) else (
    sm_cI (x8_in F l2 1 l3 S) fun v2 S =>
    if v2 = 0 then (
      some ((-1), S)
    ) else (
      sm_cI (x8_weigh F l1 S) fun v3 S =>
      if 0 ≤ v3 then (
        x8_sure_47 F F l2 l3 0 (-9) 119 S
      ) else (
        some (v3, S)
      )
    )
  )
def x2_weighThrough (F : Nat) (l1 : Int32) (l2 : Int32) (S : sm_t) : Option (Int64 × sm_t) :=
  sm_cL (x2_weighFlight F (-9) l1 l2 S) fun v1 S =>
  some (v1, S)
def x7_hour (F : Nat) (l1 : Int32) (l2 : Int32) (S : sm_t) : Option (Int32 × sm_t) :=
  sm_cI (x7_isWithin F l1 6 S) fun v1 S =>
  if v1 = 0 then (
    some ((-1), S)
  ) else (
    sm_cI (x1_isCell F l2 S) fun v2 S =>
    if v2 = 0 then (
      some ((-1), S)
    ) else (
      sm_cI (x7_weighed F 0 S) fun v3 S =>
      if v3 = 0 then (
        sm_cL (x2_weighThrough F l1 l2 S) fun v4 S =>
        sm_n (S.2.1 18 5) fun v5 =>
        sm_cV (x7_fraction F v4 v5 S) fun S =>
        some (1, S)
      ) else (
        some (v3, S)
      )
    )
  )
def x8_setRest_70 (F : Nat) (c27 : Int32 → Int32 → Int64 → Int32 → sm_t → Option (sm_t)) (l1 : Int32) (l2 : Int32) (l5 : Int32) (l6 : Int32) (t0 : Int64) (t1 : Int64) (S : sm_t) : Option (sm_t) :=
  sm_cL (x8_hourWeight F (l1 + 1) l6 S) fun v1 S =>
  sm_rd (S.2.1 65) 840 ((120 * (l1 + 1)) + l6) fun v2 =>
  sm_n (t0 + ((t1 * v1) * v2) : Int64) fun v3 =>
  c27 l1 l2 v3 (l5 + 1) S
def x8_setRest_103 (F : Nat) (c11 : Int32 → Int32 → sm_t → Option (sm_t)) (l1 : Int32) (l2 : Int32) (l3 : Int64) (S : sm_t) : Option (sm_t) :=
  sm_wl S 65 840 ((120 * l1) + l2) l3 fun S =>
  c11 l1 (l2 + 1) S
def x8_setRest_27 (F : Nat) (c11 : Int32 → Int32 → sm_t → Option (sm_t)) : Nat → Int32 → Int32 → Int64 → Int32 → sm_t → Option (sm_t)
  | 0, _, _, _, _, _ => none
  | f + 1, l1, l2, l3, l5, S => if 2 ≤ l5 then (
      x8_setRest_103 F c11 l1 l2 l3 S
    ) else (
      sm_cI (x8_hours F S) fun v1 S =>
      if v1 ≤ l1 then (
        x8_setRest_103 F c11 l1 l2 l3 S
      ) else (
        sm_cI (x8_courseOf F l1 S) fun v2 S =>
        sm_cI (x8_turned F v2 l5 S) fun v3 S =>
        sm_cI (x8_goesTo F l2 v3 S) fun v4 S =>
        if l5 = 0 then (
          x8_setRest_70 F (x8_setRest_27 F c11 f) l1 l2 l5 v4 l3 2 S
        ) else (
          x8_setRest_70 F (x8_setRest_27 F c11 f) l1 l2 l5 v4 l3 1 S
        )
      )
    )
def x8_setRest_11 (F : Nat) (c5 : Int32 → sm_t → Option (sm_t)) : Nat → Int32 → Int32 → sm_t → Option (sm_t)
  | 0, _, _, _ => none
  | f + 1, l1, l2, S => if 120 ≤ l2 then (
      c5 (l1 + (-1)) S
    ) else (
      sm_cL (x8_endWeight F l1 l2 S) fun v1 S =>
      x8_setRest_27 F (x8_setRest_11 F c5 f) F l1 l2 v1 (-1) S
    )
def x8_setRest_5 (F : Nat) : Nat → Int32 → sm_t → Option (sm_t)
  | 0, _, _ => none
  | f + 1, l1, S => if l1 < 0 then (
      some S
    ) else (
      x8_setRest_11 F (x8_setRest_5 F f) F l1 0 S
    )
def x8_setRest (F : Nat) (S : sm_t) : Option (sm_t) :=
  sm_cI (x8_hours F S) fun v1 S =>
  x8_setRest_5 F F v1 S
def x8_hour (F : Nat) (l1 : Int32) (l2 : Int32) (S : sm_t) : Option (Int32 × sm_t) :=
  sm_cI (x8_in F l1 0 6 S) fun v1 S =>
  if v1 = 0 then (
    some ((-1), S)
  ) else (
    sm_cI (x8_isCell F l2 S) fun v2 S =>
    if v2 = 0 then (
      some ((-1), S)
    ) else (
      sm_cI (x8_weigh F 0 S) fun v3 S =>
      if 0 ≤ v3 then (
        sm_cV (x8_setRest F S) fun S =>
        sm_cI (x8_hours F S) fun v5 S =>
        if v5 < l1 then (
          sm_n (S.2.1 52 23) fun v6 =>
          sm_cI (x8_part F 0 v6 1 S) fun v7 S =>
          some (v7, S)
        ) else (
          sm_rd (S.2.1 64) 840 ((120 * l1) + l2) fun v8 =>
          if v8 = 0 then (
            sm_n (S.2.1 52 23) fun v9 =>
            sm_cI (x8_part F 0 v9 1 S) fun v10 S =>
            some (v10, S)
          ) else (
            sm_rd (S.2.1 64) 840 ((120 * l1) + l2) fun v11 =>
            sm_rd (S.2.1 65) 840 ((120 * l1) + l2) fun v12 =>
            sm_n (v11 * v12 : Int64) fun v13 =>
            sm_n (S.2.1 52 23) fun v14 =>
            sm_cI (x8_part F v13 v14 1 S) fun v15 S =>
            some (v15, S)
          )
        )
      ) else (
        some (v3, S)
      )
    )
  )
def x7_ended (F : Nat) (l1 : Int32) (S : sm_t) : Option (Int32 × sm_t) :=
  sm_cI (x7_isWithin F l1 6 S) fun v1 S =>
  if v1 = 0 then (
    some ((-1), S)
  ) else (
    sm_cI (x7_weighed F 0 S) fun v2 S =>
    if v2 = 0 then (
      sm_rd (S.2.1 41) 7 l1 fun v3 =>
      sm_n (S.2.1 18 5) fun v4 =>
      sm_cV (x7_fraction F v3 v4 S) fun S =>
      some (1, S)
    ) else (
      some (v2, S)
    )
  )
def x8_ended_94 (F : Nat) (l3 : Int64) (S : sm_t) : Option (Int32 × sm_t) :=
  sm_n (S.2.1 52 23) fun v1 =>
  sm_cI (x8_part F l3 v1 1 S) fun v2 S =>
  some (v2, S)
def x8_ended_29 (F : Nat) : Nat → Int32 → Int64 → Int32 → sm_t → Option (Int32 × sm_t)
  | 0, _, _, _, _ => none
  | f + 1, l1, l3, l5, S => if 120 ≤ l5 then (
      x8_ended_94 F l3 S
    ) else (
      sm_cI (x8_hours F S) fun v1 S =>
      if v1 < l1 then (
        x8_ended_94 F l3 S
      ) else (
        sm_rd (S.2.1 64) 840 ((120 * l1) + l5) fun v2 =>
        if v2 = 0 then (
          sm_n (l3 + 0 : Int64) fun v3 =>
          x8_ended_29 F f l1 v3 (l5 + 1) S
        ) else (
          sm_rd (S.2.1 64) 840 ((120 * l1) + l5) fun v4 =>
          sm_cL (x8_endWeight F l1 l5 S) fun v5 S =>
          sm_n (l3 + (v4 * v5) : Int64) fun v6 =>
          x8_ended_29 F f l1 v6 (l5 + 1) S
        )
      )
    )
def x8_ended (F : Nat) (l1 : Int32) (S : sm_t) : Option (Int32 × sm_t) :=
  sm_cI (x8_in F l1 0 6 S) fun v1 S =>
  if v1 = 0 then (
    some ((-1), S)
  ) else (
    sm_cI (x8_weigh F 0 S) fun v2 S =>
    if 0 ≤ v2 then (
      x8_ended_29 F F l1 0 0 S
    ) else (
      some (v2, S)
    )
  )
def x7_falls (F : Nat) (l1 : Int32) (l2 : Int32) (l3 : Int32) (S : sm_t) : Option (Int32 × sm_t) :=
  sm_cI (x7_isStory F l1 S) fun v1 S =>
  if v1 = 0 then (
    some ((-1), S)
  ) else (
    sm_cI (x0_has F l2 S) fun v2 S =>
    if v2 = 0 then (
      some ((-1), S)
    ) else (
      sm_cI (x1_isCell F l3 S) fun v3 S =>
      if v3 = 0 then (
        some ((-1), S)
      ) else (
        sm_cI (x7_barred F l1 3 S) fun v4 S =>
        if v4 = 0 then (
          sm_cL (x2_weigh F l1 (-9) S) fun v5 S =>
          sm_rd (S.2.1 40) 120 l3 fun v6 =>
          sm_cL (x2_weigh F l1 l2 S) fun v7 S =>
          sm_rd (S.2.1 40) 120 l3 fun v8 =>
          if v5 ≤ 0 then (
            sm_cI (x7_found F 4 S) fun v9 S =>
            some (v9, S)
          ) else (
            if 0 < v7 then (
              sm_cV (x7_fraction F ((v6 * v7) - (v8 * v5)) (v5 * v7) S) fun S =>
              some (1, S)
            ) else (
              sm_cI (x7_found F 4 S) fun v11 S =>
              some (v11, S)
            )
          )
        ) else (
          some (v4, S)
        )
      )
    )
  )
def x8_falls (F : Nat) (l1 : Int32) (l2 : Int32) (l3 : Int32) (S : sm_t) : Option (Int32 × sm_t) :=
  sm_cI (x8_isSign F l2 S) fun v1 S =>
  if v1 = 0 then (
    some ((-1), S)
  ) else (
    sm_cI (x8_isCell F l3 S) fun v2 S =>
    if v2 = 0 then (
      some ((-1), S)
    ) else (
      sm_cI (x8_in F l1 0 3 S) fun v3 S =>
      if v3 = 0 then (
        some ((-1), S)
      ) else (
        sm_cI (x8_askedStory F l1 S) fun v4 S =>
        if 0 ≤ v4 then (
          sm_cI (x8_counted F S) fun v5 S =>
          if v5 ≤ 3 then (
            sm_cV (x8_setEnding F l1 S) fun S =>
            sm_rd (S.2.1 66) 120 l3 fun v7 =>
            sm_n (S.2.1 52 23) fun v8 =>
            sm_n (sm_wI S 52 19 l2) fun S =>
            sm_cV (x8_setEnding F l1 S) fun S =>
            sm_n (sm_wI S 52 19 (-9)) fun S =>
            sm_n (S.2.1 52 23) fun v10 =>
            if v10 = 0 then (
              sm_cI (x8_meets F 4 S) fun v11 S =>
              some (v11, S)
            ) else (
              if v8 = 0 then (
                sm_cI (x8_meets F 4 S) fun v12 S =>
                some (v12, S)
              ) else (
                sm_n (S.2.1 52 23) fun v13 =>
                sm_rd (S.2.1 66) 120 l3 fun v14 =>
                sm_n (S.2.1 52 23) fun v15 =>
                sm_cI (x8_part F ((v7 * v13) - (v14 * v8)) (v15 * v8) 1 S) fun v16 S =>
                some (v16, S)
              )
            )
          ) else (
            some ((-6), S)
          )
        ) else (
          some (v4, S)
        )
      )
    )
  )
def x7_turns_112 (F : Nat) (c57 : Int32 → Int32 → Int32 → Int32 → sm_t → Option (Int32 × sm_t)) (l1 : Int32) (l3 : Int32) (l4 : Int32) (l5 : Int32) (t0 : Int32) (S : sm_t) : Option (Int32 × sm_t) :=
  if t0 = l3 then (
    sm_n (l4 ||| 0 : Int32) fun v1 =>
    c57 l1 l3 v1 (l5 + 1) S
  ) else (
    sm_n (l4 ||| (1 <<< (l5 &&& 31)) : Int32) fun v2 =>
    c57 l1 l3 v2 (l5 + 1) S
  )
def x7_turns_57 (F : Nat) : Nat → Int32 → Int32 → Int32 → Int32 → sm_t → Option (Int32 × sm_t)
  | 0, _, _, _, _, _ => none
  | f + 1, l1, l3, l4, l5, S => sm_n (S.1 22 1) fun v1 =>
    if v1 ≤ l5 then (
      some (l4, S)
    ) else (
      sm_rd (fun i => 24 + i) 12 l5 fun a2 =>
      sm_on 5 a2 (
      sm_cI (x6_counts F a2 S) fun v3 S =>
      if v3 = 0 then (
        x7_turns_57 F f l1 l3 l4 (l5 + 1) S
      ) else (
        sm_cL (x2_weigh F l1 l5 S) fun v5 S =>
        if v5 ≤ 0 then (
          x7_turns_112 F (x7_turns_57 F f) l1 l3 l4 l5 (-9) S
        ) else (
          sm_cI (x2_greatest F S) fun v6 S =>
          x7_turns_112 F (x7_turns_57 F f) l1 l3 l4 l5 v6 S
        )
      )
      )
    )
def x7_turns (F : Nat) (l1 : Int32) (S : sm_t) : Option (Int32 × sm_t) :=
  sm_cI (x7_isStory F l1 S) fun v1 S =>
  if v1 = 0 then (
    some ((-1), S)
  ) else (
    sm_cI (x7_barred F l1 6 S) fun v2 S =>
    if v2 = 0 then (
      sm_cL (x2_weigh F l1 (-9) S) fun v3 S =>
      if v3 ≤ 0 then (
        x7_turns_57 F F l1 (-9) 0 0 S
      ) else (
        sm_cI (x2_greatest F S) fun v4 S =>
        x7_turns_57 F F l1 v4 0 0 S
      )
    ) else (
      some (v2, S)
    )
  )
def x8_turns_54 (F : Nat) : Nat → Int32 → Int32 → Int32 → Int32 → sm_t → Option (Int32 × sm_t)
  | 0, _, _, _, _, _ => none
  | f + 1, l1, l3, l4, l5, S => sm_n (S.1 52 17) fun v1 =>
    if v1 ≤ l5 then (
      some (l4, S)
    ) else (
      sm_cI (x8_counts F l5 S) fun v2 S =>
      if v2 = 0 then (
        x8_turns_54 F f l1 l3 l4 (l5 + 1) S
      ) else (
        sm_n (sm_wI S 52 19 l5) fun S =>
        sm_cV (x8_setEnding F l1 S) fun S =>
        sm_n (sm_wI S 52 19 (-9)) fun S =>
        sm_n (S.2.1 52 23) fun v4 =>
        if v4 ≤ 0 then (
          sm_n (l4 ||| 0 : Int32) fun v5 =>
          x8_turns_54 F f l1 l3 v5 (l5 + 1) S
        ) else (
          sm_cI (x8_mostOf F S) fun v6 S =>
          if v6 = l3 then (
            sm_n (l4 ||| 0 : Int32) fun v7 =>
            x8_turns_54 F f l1 l3 v7 (l5 + 1) S
          ) else (
            sm_n (l4 ||| (1 <<< (l5 &&& 31)) : Int32) fun v8 =>
            x8_turns_54 F f l1 l3 v8 (l5 + 1) S
          )
        )
      )
    )
def x8_turns (F : Nat) (l1 : Int32) (S : sm_t) : Option (Int32 × sm_t) :=
  sm_cI (x8_askedStory F l1 S) fun v1 S =>
  if 0 ≤ v1 then (
    sm_cI (x8_counted F S) fun v2 S =>
    if v2 ≤ 6 then (
      sm_cV (x8_setEnding F l1 S) fun S =>
      sm_n (S.2.1 52 23) fun v4 =>
      if v4 = 0 then (
        x8_turns_54 F F l1 (-9) 0 0 S
      ) else (
        sm_cI (x8_mostOf F S) fun v5 S =>
        x8_turns_54 F F l1 v5 0 0 S
      )
    ) else (
      some ((-6), S)
    )
  ) else (
    some (v1, S)
  )
def x7_truly_119 (F : Nat) (l4 : Int64) (S : sm_t) : Option (Int32 × sm_t) :=
  sm_n (S.2.1 18 5) fun v1 =>
  sm_cV (x7_fraction F l4 v1 S) fun S =>
  some (1, S)
def x7_truly_74 (F : Nat) : Nat → Int32 → Int64 → Int32 → sm_t → Option (Int32 × sm_t)
  | 0, _, _, _, _ => none
  | f + 1, l2, l4, l6, S => if 120 ≤ l6 then (
      x7_truly_119 F l4 S
    ) else (
      sm_rd (fun i => 24 + i) 12 l2 fun a1 =>
      sm_on 5 a1 (
      sm_cI (x6_isFrom F a1 l6 S) fun v2 S =>
      if v2 = 0 then (
        x7_truly_74 F f l2 l4 (l6 + 1) S
      ) else (
        sm_rd (S.2.1 40) 120 l6 fun v4 =>
        sm_n (l4 + v4 : Int64) fun v5 =>
        x7_truly_74 F f l2 v5 (l6 + 1) S
      )
      )
    )
def x7_truly (F : Nat) (l1 : Int32) (l2 : Int32) (S : sm_t) : Option (Int32 × sm_t) :=
  sm_cI (x7_isStory F l1 S) fun v1 S =>
  if v1 = 0 then (
    some ((-1), S)
  ) else (
    sm_cI (x0_has F l2 S) fun v2 S =>
    if v2 = 0 then (
      some ((-1), S)
    ) else (
      sm_cI (x7_isMissing F l1 S) fun v3 S =>
      if v3 = 0 then (
        sm_rd (fun i => 24 + i) 12 l2 fun a4 =>
        sm_on 5 a4 (
        sm_cI (x6_is F a4 5 S) fun v5 S =>
        if v5 = 0 then (
          sm_cI (x7_found F 3 S) fun v7 S =>
          some (v7, S)
        ) else (
          sm_cI (x7_weighed F l1 S) fun v8 S =>
          if v8 = 0 then (
            x7_truly_74 F F l2 0 0 S
          ) else (
            some (v8, S)
          )
        )
        )
      ) else (
        sm_cI (x7_found F 1 S) fun v9 S =>
        some (v9, S)
      )
    )
  )
def x8_isVoice (F : Nat) (l0 : Int32) (S : sm_t) : Option (Int32 × sm_t) :=
  if l0 = 5 then (
    some (1, S)
  ) else (
    if l0 = 6 then (
      some (1, S)
    ) else (
      some (0, S)
    )
  )
def x8_truly_116 (F : Nat) (l4 : Int64) (S : sm_t) : Option (Int32 × sm_t) :=
  sm_n (S.2.1 52 23) fun v1 =>
  sm_cI (x8_part F l4 v1 1 S) fun v2 S =>
  some (v2, S)
def x8_truly_67 (F : Nat) : Nat → Int32 → Int64 → Int32 → sm_t → Option (Int32 × sm_t)
  | 0, _, _, _, _ => none
  | f + 1, l2, l4, l6, S => if 120 ≤ l6 then (
      x8_truly_116 F l4 S
    ) else (
      sm_cI (x8_tell F l2 1 S) fun v1 S =>
      sm_cI (x8_sideOf F v1 l6 S) fun v2 S =>
      sm_cI (x8_tell F l2 2 S) fun v3 S =>
      if v2 = v3 then (
        sm_rd (S.2.1 66) 120 l6 fun v4 =>
        sm_n (l4 + v4 : Int64) fun v5 =>
        x8_truly_67 F f l2 v5 (l6 + 1) S
      ) else (
        sm_n (l4 + 0 : Int64) fun v6 =>
        x8_truly_67 F f l2 v6 (l6 + 1) S
      )
    )
def x8_truly (F : Nat) (l1 : Int32) (l2 : Int32) (S : sm_t) : Option (Int32 × sm_t) :=
  sm_cI (x8_isSign F l2 S) fun v1 S =>
  if v1 = 0 then (
    some ((-1), S)
  ) else (
    sm_cI (x8_in F l1 0 3 S) fun v2 S =>
    if v2 = 0 then (
      some ((-1), S)
    ) else (
      sm_cI (x8_askedStory F l1 S) fun v3 S =>
      if 0 ≤ v3 then (
        sm_cI (x8_tell F l2 0 S) fun v4 S =>
        sm_cI (x8_isVoice F v4 S) fun v5 S =>
        if v5 = 0 then (
          sm_cI (x8_meets F 3 S) fun v6 S =>
          some (v6, S)
        ) else (
          sm_cI (x8_weigh F l1 S) fun v7 S =>
          if 0 ≤ v7 then (
            x8_truly_67 F F l2 0 0 S
          ) else (
            some (v7, S)
          )
        )
      ) else (
        some (v3, S)
      )
    )
  )
def x6_isTrueVoice (F : Nat) (l0 : Nat) (S : sm_t) : Option (Int32 × sm_t) :=
  sm_on 5 l0 (
  sm_n (S.1 l0 0) fun v2 =>
  if v2 = 5 then (
    sm_n (S.1 l0 4) fun v3 =>
    if v3 = 0 then (
      some (1, S)
    ) else (
      some (0, S)
    )
  ) else (
    some (0, S)
  )
  )
def x0_anyTrueVoice_2 (F : Nat) : Nat → Int32 → sm_t → Option (Int32 × sm_t)
  | 0, _, _ => none
  | f + 1, l1, S => sm_n (S.1 22 1) fun v1 =>
    if v1 ≤ l1 then (
      some (0, S)
    ) else (
      sm_rd (fun i => 24 + i) 12 l1 fun a2 =>
      sm_on 5 a2 (
      sm_cI (x6_isTrueVoice F a2 S) fun v3 S =>
      if v3 = 0 then (
        x0_anyTrueVoice_2 F f (l1 + 1) S
      ) else (
        some (1, S)
      )
      )
    )
def x0_anyTrueVoice (F : Nat) (S : sm_t) : Option (Int32 × sm_t) :=
  x0_anyTrueVoice_2 F F 0 S
def x0_trueVoicesFrom_4 (F : Nat) : Nat → Int32 → Int32 → Int32 → sm_t → Option (Int32 × sm_t)
  | 0, _, _, _, _ => none
  | f + 1, l1, l2, l3, S => sm_n (S.1 22 1) fun v1 =>
    if v1 ≤ l3 then (
      some (l2, S)
    ) else (
      sm_rd (fun i => 24 + i) 12 l3 fun a2 =>
      sm_on 5 a2 (
      sm_cI (x6_isTrueVoice F a2 S) fun v3 S =>
      if v3 = 0 then (
        sm_n (l2 + 0 : Int32) fun v5 =>
        x0_trueVoicesFrom_4 F f l1 v5 (l3 + 1) S
      ) else (
        sm_rd (fun i => 24 + i) 12 l3 fun a6 =>
        sm_on 5 a6 (
        sm_cI (x6_isFrom F a6 l1 S) fun v7 S =>
        if v7 = 0 then (
          sm_n (l2 + 0 : Int32) fun v9 =>
          x0_trueVoicesFrom_4 F f l1 v9 (l3 + 1) S
        ) else (
          sm_n (l2 + 1 : Int32) fun v10 =>
          x0_trueVoicesFrom_4 F f l1 v10 (l3 + 1) S
        )
        )
      )
      )
    )
def x0_trueVoicesFrom (F : Nat) (l1 : Int32) (S : sm_t) : Option (Int32 × sm_t) :=
  x0_trueVoicesFrom_4 F F l1 0 0 S
def x7_cross_38 (F : Nat) : Nat → Int32 → Int32 → Int32 → Int32 → Int32 → sm_t → Option (Int32 × sm_t)
  | 0, _, _, _, _, _, _ => none
  | f + 1, l1, l2, l3, l4, l5, S => if 120 ≤ l5 then (
      sm_n (sm_wI S 3 11 l4) fun S =>
      some (l2, S)
    ) else (
      sm_cI (x0_trueVoicesFrom F l5 S) fun v1 S =>
      if v1 < l1 then (
        if v1 ≤ l3 then (
          x7_cross_38 F f l1 l2 l3 l4 (l5 + 1) S
        ) else (
          x7_cross_38 F f l1 l2 v1 l5 (l5 + 1) S
        )
      ) else (
        if v1 ≤ l3 then (
          x7_cross_38 F f l1 (l2 + 1) l3 l4 (l5 + 1) S
        ) else (
          x7_cross_38 F f l1 (l2 + 1) v1 l5 (l5 + 1) S
        )
      )
    )
def x7_cross (F : Nat) (l1 : Int32) (S : sm_t) : Option (Int32 × sm_t) :=
  if l1 < 1 then (
    some ((-1), S)
  ) else (
    if l1 ≤ 12 then (
      sm_cI (x0_anyTrueVoice F S) fun v1 S =>
      if v1 = 0 then (
        x7_cross_38 F F l1 0 0 (-9) 0 S
      ) else (
        x7_cross_38 F F l1 0 0 0 0 S
      )
    ) else (
      some ((-1), S)
    )
  )
def x8_cross_161 (F : Nat) (c69 : Int32 → Int32 → Int32 → Int32 → Int32 → Int32 → sm_t → Option (Int32 × sm_t)) (l1 : Int32) (l2 : Int32) (l4 : Int32) (l5 : Int32) (l6 : Int32) (l7 : Int32) (t0 : Int32) (t1 : Int32) (S : sm_t) : Option (Int32 × sm_t) :=
  sm_n (t0 + t1 : Int32) fun v1 =>
  if l7 ≤ l5 then (
    if l7 ≤ l5 then (
      c69 l1 l2 v1 l4 l5 (l6 + 1) S
    ) else (
      c69 l1 l2 v1 l4 l7 (l6 + 1) S
    )
  ) else (
    if l7 ≤ l5 then (
      c69 l1 l2 v1 l6 l5 (l6 + 1) S
    ) else (
      c69 l1 l2 v1 l6 l7 (l6 + 1) S
    )
  )
def x8_cross_149 (F : Nat) (c69 : Int32 → Int32 → Int32 → Int32 → Int32 → Int32 → sm_t → Option (Int32 × sm_t)) (l1 : Int32) (l2 : Int32) (l3 : Int32) (l4 : Int32) (l5 : Int32) (l6 : Int32) (l7 : Int32) (S : sm_t) : Option (Int32 × sm_t) :=
  if l7 < l1 then (
    x8_cross_161 F c69 l1 l2 l4 l5 l6 l7 l3 0 S
  ) else (
    x8_cross_161 F c69 l1 l2 l4 l5 l6 l7 l3 1 S
  )
def x8_cross_82 (F : Nat) (c69 : Int32 → Int32 → Int32 → Int32 → Int32 → Int32 → sm_t → Option (Int32 × sm_t)) : Nat → Int32 → Int32 → Int32 → Int32 → Int32 → Int32 → Int32 → Int32 → sm_t → Option (Int32 × sm_t)
  | 0, _, _, _, _, _, _, _, _, _ => none
  | f + 1, l1, l2, l3, l4, l5, l6, l7, l8, S => sm_n (S.1 52 17) fun v1 =>
    if v1 ≤ l8 then (
      x8_cross_149 F c69 l1 l2 l3 l4 l5 l6 l7 S
    ) else (
      sm_cI (x8_counts F l8 S) fun v2 S =>
      if v2 = 0 then (
        sm_n (l7 + 0 : Int32) fun v3 =>
        x8_cross_82 F c69 f l1 l2 l3 l4 l5 l6 v3 (l8 + 1) S
      ) else (
        sm_cI (x8_tell F l8 0 S) fun v4 S =>
        if v4 = 5 then (
          sm_cI (x8_tell F l8 1 S) fun v5 S =>
          sm_cI (x8_sideOf F v5 l6 S) fun v6 S =>
          sm_cI (x8_tell F l8 2 S) fun v7 S =>
          if v6 = v7 then (
            sm_n (l7 + 1 : Int32) fun v8 =>
            x8_cross_82 F c69 f l1 l2 l3 l4 l5 l6 v8 (l8 + 1) S
          ) else (
            sm_n (l7 + 0 : Int32) fun v9 =>
            x8_cross_82 F c69 f l1 l2 l3 l4 l5 l6 v9 (l8 + 1) S
          )
        ) else (
          sm_n (l7 + 0 : Int32) fun v10 =>
          x8_cross_82 F c69 f l1 l2 l3 l4 l5 l6 v10 (l8 + 1) S
        )
      )
    )
def x8_cross_201 (F : Nat) (l2 : Int32) (l3 : Int32) (l4 : Int32) (S : sm_t) : Option (Int32 × sm_t) :=
  if l2 = 0 then (
    sm_cI (x8_ask F (-9) l3 S) fun v1 S =>
    some (v1, S)
  ) else (
    sm_cI (x8_ask F l4 l3 S) fun v2 S =>
    some (v2, S)
  )
def x8_cross_69 (F : Nat) : Nat → Int32 → Int32 → Int32 → Int32 → Int32 → Int32 → sm_t → Option (Int32 × sm_t)
  | 0, _, _, _, _, _, _, _ => none
  | f + 1, l1, l2, l3, l4, l5, l6, S => if 120 ≤ l6 then (
      x8_cross_201 F l2 l3 l4 S
    ) else (
      x8_cross_82 F (x8_cross_69 F f) F l1 l2 l3 l4 l5 l6 0 0 S
    )
def x8_cross_56 (F : Nat) (l1 : Int32) (l2 : Int32) (S : sm_t) : Option (Int32 × sm_t) :=
  x8_cross_69 F F l1 l2 0 (-9) (-9) 0 S
def x8_cross_16 (F : Nat) : Nat → Int32 → Int32 → Int32 → sm_t → Option (Int32 × sm_t)
  | 0, _, _, _, _ => none
  | f + 1, l1, l2, l3, S => sm_n (S.1 52 17) fun v1 =>
    if v1 ≤ l3 then (
      x8_cross_56 F l1 l2 S
    ) else (
      sm_cI (x8_counts F l3 S) fun v2 S =>
      if v2 = 0 then (
        sm_n (l2 + 0 : Int32) fun v3 =>
        x8_cross_16 F f l1 v3 (l3 + 1) S
      ) else (
        sm_cI (x8_tell F l3 0 S) fun v4 S =>
        if v4 = 5 then (
          sm_n (l2 + 1 : Int32) fun v5 =>
          x8_cross_16 F f l1 v5 (l3 + 1) S
        ) else (
          sm_n (l2 + 0 : Int32) fun v6 =>
          x8_cross_16 F f l1 v6 (l3 + 1) S
        )
      )
    )
def x8_cross (F : Nat) (l1 : Int32) (S : sm_t) : Option (Int32 × sm_t) :=
  sm_cI (x8_in F l1 1 12 S) fun v1 S =>
  if v1 = 0 then (
    some ((-1), S)
  ) else (
    x8_cross_16 F F l1 0 0 S
  )
def x2_bare_41 (F : Nat) (l2 : Int64) (S : sm_t) : Option (Int64 × sm_t) :=
  sm_n (S.1 19 1) fun v1 =>
  some (sm_ls l2 (2 * v1), S)
def x2_bare_9 (F : Nat) : Nat → Int64 → Int32 → sm_t → Option (Int64 × sm_t)
  | 0, _, _, _ => none
  | f + 1, l2, l4, S => sm_n (S.1 19 1) fun v1 =>
    if v1 < l4 then (
      x2_bare_41 F l2 S
    ) else (
      sm_rd (S.1 21) 7 l4 fun v2 =>
      sm_n (l2 + (v2.toInt64) : Int64) fun v3 =>
      x2_bare_9 F f v3 (l4 + 1) S
    )
def x2_bare_56 (F : Nat) : Nat → Int32 → Int64 → Int32 → sm_t → Option (Int64 × sm_t)
  | 0, _, _, _, _ => none
  | f + 1, l1, l2, l4, S => if 120 ≤ l4 then (
      some (l2, S)
    ) else (
      sm_rd (fun i => 37 + i) 3 (l1 - 1) fun a1 =>
      sm_an (.int) a1 fun n3 =>
      sm_rd (S.1 a1) n3 l4 fun v4 =>
      sm_n (l2 + (v4.toInt64) : Int64) fun v5 =>
      x2_bare_56 F f l1 v5 (l4 + 1) S
    )
def x2_bare (F : Nat) (l1 : Int32) (S : sm_t) : Option (Int64 × sm_t) :=
  if l1 = 0 then (
    x2_bare_9 F F 0 0 S
  ) else (
    x2_bare_56 F F l1 0 0 S
  )
def x7_likelier (F : Nat) (l1 : Int32) (l2 : Int32) (S : sm_t) : Option (Int32 × sm_t) :=
  sm_cI (x7_isStory F l1 S) fun v1 S =>
  if v1 = 0 then (
    some ((-1), S)
  ) else (
    sm_cI (x7_isStory F l2 S) fun v2 S =>
    if v2 = 0 then (
      some ((-1), S)
    ) else (
      sm_cI (x7_isMissing F l1 S) fun v3 S =>
      if v3 = 0 then (
        sm_cI (x7_isMissing F l2 S) fun v4 S =>
        if v4 = 0 then (
          sm_cI (x0_busy F S) fun v5 S =>
          if v5 ≤ 6 then (
            sm_cL (x2_bare F l1 S) fun v6 S =>
            sm_cL (x2_bare F l2 S) fun v7 S =>
            sm_cL (x2_weigh F l1 (-9) S) fun v8 S =>
            sm_cL (x2_weigh F l2 (-9) S) fun v9 S =>
            if v9 ≤ 0 then (
              sm_cI (x7_found F 4 S) fun v10 S =>
              some (v10, S)
            ) else (
              if v6 ≤ 0 then (
                sm_cI (x7_found F 4 S) fun v11 S =>
                some (v11, S)
              ) else (
                if 0 < v7 then (
                  sm_n (v8 * v7 : Int64) fun v12 =>
                  sm_n (v9 * v6 : Int64) fun v13 =>
                  sm_cV (x7_fraction F v12 v13 S) fun S =>
                  if v12 ≤ v13 then (
                    if v12 = v13 then (
                      some (1, S)
                    ) else (
                      some (0, S)
                    )
                  ) else (
                    some (2, S)
                  )
                ) else (
                  sm_cI (x7_found F 4 S) fun v15 S =>
                  some (v15, S)
                )
              )
            )
          ) else (
            some ((-6), S)
          )
        ) else (
          sm_cI (x7_found F 1 S) fun v16 S =>
          some (v16, S)
        )
      ) else (
        sm_cI (x7_found F 1 S) fun v17 S =>
        some (v17, S)
      )
    )
  )
def x8_bare_73 (F : Nat) : Nat → Int32 → Int64 → Int32 → sm_t → Option (Int64 × sm_t)
  | 0, _, _, _, _ => none
  | f + 1, l1, l2, l4, S => sm_cI (x8_hours F S) fun v1 S =>
    if v1 ≤ l4 then (
      some (l2, S)
    ) else (
      if l1 = 0 then (
        sm_n (l2 * 4 : Int64) fun v2 =>
        x8_bare_73 F f l1 v2 (l4 + 1) S
      ) else (
        some (l2, S)
      )
    )
def x8_bare_41 (F : Nat) : Nat → Int32 → Int64 → Int32 → sm_t → Option (Int64 × sm_t)
  | 0, _, _, _, _ => none
  | f + 1, l1, l2, l4, S => sm_cI (x8_hours F S) fun v1 S =>
    if v1 < l4 then (
      x8_bare_73 F F l1 l2 0 S
    ) else (
      if l1 = 0 then (
        sm_cI (x8_endOf F l4 S) fun v2 S =>
        sm_n (l2 + (v2.toInt64) : Int64) fun v3 =>
        x8_bare_41 F f l1 v3 (l4 + 1) S
      ) else (
        x8_bare_73 F F l1 l2 0 S
      )
    )
def x8_bare_5 (F : Nat) : Nat → Int32 → Int64 → Int32 → sm_t → Option (Int64 × sm_t)
  | 0, _, _, _, _ => none
  | f + 1, l1, l2, l4, S => if 120 ≤ l4 then (
      x8_bare_41 F F l1 l2 0 S
    ) else (
      if l1 ≤ 0 then (
        x8_bare_41 F F l1 l2 0 S
      ) else (
        sm_rd (S.1 61) 480 ((120 * l1) + l4) fun v1 =>
        sm_n (l2 + (v1.toInt64) : Int64) fun v2 =>
        x8_bare_5 F f l1 v2 (l4 + 1) S
      )
    )
def x8_bare (F : Nat) (l1 : Int32) (S : sm_t) : Option (Int64 × sm_t) :=
  x8_bare_5 F F l1 0 0 S
def x8_likelier_52 (F : Nat) (l1 : Int32) (l2 : Int32) (S : sm_t) : Option (Int32 × sm_t) :=
  sm_cI (x8_counted F S) fun v1 S =>
  if v1 ≤ 6 then (
    sm_cV (x8_setEnding F l1 S) fun S =>
    sm_n (S.2.1 52 23) fun v3 =>
    sm_cL (x8_bare F l2 S) fun v4 S =>
    sm_n (v3 * v4 : Int64) fun v5 =>
    sm_cV (x8_setEnding F l2 S) fun S =>
    sm_n (S.2.1 52 23) fun v7 =>
    sm_cL (x8_bare F l1 S) fun v8 S =>
    sm_n (v7 * v8 : Int64) fun v9 =>
    if v9 = 0 then (
      sm_cI (x8_meets F 4 S) fun v10 S =>
      some (v10, S)
    ) else (
      sm_cL (x8_bare F l2 S) fun v11 S =>
      if v11 = 0 then (
        sm_cI (x8_meets F 4 S) fun v12 S =>
        some (v12, S)
      ) else (
        if v5 ≤ v9 then (
          if v5 = v9 then (
            sm_cI (x8_part F v5 v9 1 S) fun v13 S =>
            some (v13, S)
          ) else (
            sm_cI (x8_part F v5 v9 0 S) fun v14 S =>
            some (v14, S)
          )
        ) else (
          sm_cI (x8_part F v5 v9 2 S) fun v15 S =>
          some (v15, S)
        )
      )
    )
  ) else (
    some ((-6), S)
  )
def x8_likelier_33 (F : Nat) (l1 : Int32) (l2 : Int32) (S : sm_t) : Option (Int32 × sm_t) :=
  if l2 ≤ 0 then (
    x8_likelier_52 F l1 l2 S
  ) else (
    sm_rd (S.1 60) 4 l2 fun v1 =>
    if v1 = 0 then (
      sm_cI (x8_meets F 1 S) fun v2 S =>
      some (v2, S)
    ) else (
      x8_likelier_52 F l1 l2 S
    )
  )
def x8_likelier (F : Nat) (l1 : Int32) (l2 : Int32) (S : sm_t) : Option (Int32 × sm_t) :=
  sm_cI (x8_in F l1 0 3 S) fun v1 S =>
  if v1 = 0 then (
    some ((-1), S)
  ) else (
    sm_cI (x8_in F l2 0 3 S) fun v2 S =>
    if v2 = 0 then (
      some ((-1), S)
    ) else (
      if l1 ≤ 0 then (
        x8_likelier_33 F l1 l2 S
      ) else (
        sm_rd (S.1 60) 4 l1 fun v3 =>
        if v3 = 0 then (
          sm_cI (x8_meets F 1 S) fun v4 S =>
          some (v4, S)
        ) else (
          x8_likelier_33 F l1 l2 S
        )
      )
    )
  )
def x2_weightBehind_12 (F : Nat) : Nat → Int32 → Int64 → Int32 → Int32 → sm_t → Option (Int64 × sm_t)
  | 0, _, _, _, _, _ => none
  | f + 1, l2, l3, l5, l6, S => if 12 ≤ l6 then (
      some (l3, S)
    ) else (
      if l5 = (-9) then (
        some (l3, S)
      ) else (
        sm_rd (S.2.1 40) 120 l5 fun v1 =>
        sm_n (l3 + v1 : Int64) fun v2 =>
        sm_cI (x1_beside F l5 l2 S) fun v3 S =>
        x2_weightBehind_12 F f l2 v2 v3 (l6 + 1) S
      )
    )
def x2_weightBehind (F : Nat) (l1 : Int32) (l2 : Int32) (S : sm_t) : Option (Int64 × sm_t) :=
  sm_cI (x1_beside F l1 l2 S) fun v1 S =>
  x2_weightBehind_12 F F l2 0 v1 0 S
def x1_manyBehind_11 (F : Nat) : Nat → Int32 → Int32 → Int32 → Int32 → sm_t → Option (Int32 × sm_t)
  | 0, _, _, _, _, _ => none
  | f + 1, l1, l2, l3, l4, S => if 12 ≤ l4 then (
      some (l2, S)
    ) else (
      if l3 = (-9) then (
        some (l2, S)
      ) else (
        sm_cI (x1_beside F l3 l1 S) fun v1 S =>
        x1_manyBehind_11 F f l1 (l2 + 1) v1 (l4 + 1) S
      )
    )
def x1_manyBehind (F : Nat) (l0 : Int32) (l1 : Int32) (S : sm_t) : Option (Int32 × sm_t) :=
  sm_cI (x1_beside F l0 l1 S) fun v1 S =>
  x1_manyBehind_11 F F l1 0 v1 0 S
def x7_line (F : Nat) (l1 : Int32) (l2 : Int32) (l3 : Int32) (S : sm_t) : Option (Int32 × sm_t) :=
  sm_cI (x7_isStory F l1 S) fun v1 S =>
  if v1 = 0 then (
    some ((-1), S)
  ) else (
    sm_cI (x1_isCell F l2 S) fun v2 S =>
    if v2 = 0 then (
      some ((-1), S)
    ) else (
      sm_cI (x1_isSide F l3 S) fun v3 S =>
      if v3 = 0 then (
        some ((-1), S)
      ) else (
        sm_cI (x7_weighed F l1 S) fun v4 S =>
        if v4 = 0 then (
          sm_cI (x1_turned F l3 4 S) fun v5 S =>
          sm_rd (S.2.1 40) 120 l2 fun v6 =>
          sm_cL (x2_weightBehind F l2 l3 S) fun v7 S =>
          sm_cL (x2_weightBehind F l2 v5 S) fun v8 S =>
          sm_n ((v6 + v7) + v8 : Int64) fun v9 =>
          sm_n (S.2.1 18 5) fun v10 =>
          sm_cV (x7_fraction F v9 v10 S) fun S =>
          sm_cI (x1_manyBehind F l2 l3 S) fun v12 S =>
          sm_cI (x1_manyBehind F l2 v5 S) fun v13 S =>
          some ((1 + v12) + v13, S)
        ) else (
          some (v4, S)
        )
      )
    )
  )
def x8_line_65 (F : Nat) (c45 : Int32 → Int32 → Int64 → Int32 → Int32 → sm_t → Option (Int32 × sm_t)) : Nat → Int32 → Int32 → Int64 → Int32 → Int32 → Int32 → sm_t → Option (Int32 × sm_t)
  | 0, _, _, _, _, _, _, _ => none
  | f + 1, l2, l3, l5, l7, l8, l9, S => if l9 < 0 then (
      c45 l2 l3 l5 l7 (l8 + 1) S
    ) else (
      sm_rd (S.2.1 66) 120 l9 fun v1 =>
      sm_n (l5 + v1 : Int64) fun v2 =>
      sm_cI (x8_turned F l3 (4 * l8) S) fun v3 S =>
      sm_cI (x8_nextOf F l9 v3 S) fun v4 S =>
      x8_line_65 F c45 f l2 l3 v2 (l7 + 1) l8 v4 S
    )
def x8_line_109 (F : Nat) (l5 : Int64) (l7 : Int32) (S : sm_t) : Option (Int32 × sm_t) :=
  sm_n (S.2.1 52 23) fun v1 =>
  sm_cI (x8_part F l5 v1 l7 S) fun v2 S =>
  some (v2, S)
def x8_line_45 (F : Nat) : Nat → Int32 → Int32 → Int64 → Int32 → Int32 → sm_t → Option (Int32 × sm_t)
  | 0, _, _, _, _, _, _ => none
  | f + 1, l2, l3, l5, l7, l8, S => if 2 ≤ l8 then (
      x8_line_109 F l5 l7 S
    ) else (
      sm_cI (x8_turned F l3 (4 * l8) S) fun v1 S =>
      sm_cI (x8_nextOf F l2 v1 S) fun v2 S =>
      x8_line_65 F (x8_line_45 F f) F l2 l3 l5 l7 l8 v2 S
    )
def x8_line (F : Nat) (l1 : Int32) (l2 : Int32) (l3 : Int32) (S : sm_t) : Option (Int32 × sm_t) :=
  sm_cI (x8_isCell F l2 S) fun v1 S =>
  if v1 = 0 then (
    some ((-1), S)
  ) else (
    sm_cI (x8_isSide F l3 S) fun v2 S =>
    if v2 = 0 then (
      some ((-1), S)
    ) else (
      sm_cI (x8_weigh F l1 S) fun v3 S =>
      if 0 ≤ v3 then (
        sm_rd (S.2.1 66) 120 l2 fun v4 =>
        x8_line_45 F F l2 l3 v4 1 0 S
      ) else (
        some (v3, S)
      )
    )
  )
def x5_wasIn_2 (F : Nat) : Nat → Nat → Int32 → Int32 → Int32 → sm_t → Option (Int32 × sm_t)
  | 0, _, _, _, _, _ => none
  | f + 1, l0, l1, l2, l3, S => if l2 < l3 then (
      some (0, S)
    ) else (
      sm_an (.int) l0 fun n2 =>
      sm_rd (S.1 l0) n2 l3 fun v3 =>
      if v3 = l1 then (
        some (1, S)
      ) else (
        x5_wasIn_2 F f l0 l1 l2 (l3 + 1) S
      )
    )
def x5_wasIn (F : Nat) (l0 : Nat) (l1 : Int32) (l2 : Int32) (S : sm_t) : Option (Int32 × sm_t) :=
  x5_wasIn_2 F F l0 l1 l2 0 S
def x5_sail_121 (F : Nat) (rc : Int64 → Int32 → Int64 → sm_t → Option (sm_t)) (c95 : Int64 → Int32 → Int64 → Int32 → Int32 → Int32 → sm_t → Option (sm_t)) : Nat → Int64 → Int32 → Int64 → Int32 → Int32 → Int32 → Int32 → sm_t → Option (sm_t)
  | 0, _, _, _, _, _, _, _, _ => none
  | f + 1, l2, l4, l5, l8, l9, l10, l11, S => if l8 + 1 < l11 then (
      c95 l2 l4 l5 l8 l9 (l10 + 1) S
    ) else (
      if 12 ≤ l11 then (
        c95 l2 l4 l5 l8 l9 (l10 + 1) S
      ) else (
        sm_n ((l10 * 12) + l11 : Int32) fun v1 =>
        sm_wr S 50 5 (l4 + 1) v1 fun S =>
        sm_cI (x5_wasIn F 50 v1 l4 S) fun v2 S =>
        if v2 = 0 then (
          sm_rd (S.2.1 40) 120 v1 fun v3 =>
          sm_cV (rc l2 (l4 + 1) (l5 + v3) S) fun S =>
          x5_sail_121 F rc c95 f l2 l4 l5 l8 l9 l10 (l11 + 1) S
        ) else (
          sm_cV (rc l2 (l4 + 1) l5 S) fun S =>
          x5_sail_121 F rc c95 f l2 l4 l5 l8 l9 l10 (l11 + 1) S
        )
      )
    )
def x5_sail_95 (F : Nat) (rc : Int64 → Int32 → Int64 → sm_t → Option (sm_t)) : Nat → Int64 → Int32 → Int64 → Int32 → Int32 → Int32 → sm_t → Option (sm_t)
  | 0, _, _, _, _, _, _, _ => none
  | f + 1, l2, l4, l5, l8, l9, l10, S => if l9 + 1 < l10 then (
      some S
    ) else (
      if 10 ≤ l10 then (
        some S
      ) else (
        sm_n (sm_mx (l8 - 1) 0 : Int32) fun v1 =>
        x5_sail_121 F rc (x5_sail_95 F rc f) F l2 l4 l5 l8 l9 l10 v1 S
      )
    )
def x5_sail (F : Nat) : Nat → Int64 → Int32 → Int64 → sm_t → Option (sm_t)
  | 0, _, _, _, _ => none
  | d + 1, l2, l4, l5, S => sm_n (S.1 48 3) fun v1 =>
    sm_n (v1 - l4 : Int32) fun v2 =>
    sm_n (S.2.1 48 2) fun v3 =>
    if v3 < l5 + ((v2.toInt64) * l2) then (
      if v2 ≤ 0 then (
        sm_n (sm_wL S 48 2 l5) fun S =>
        sm_cp S 50 5 49 5 0 0 (l4 + 1) fun S =>
        some S
      ) else (
        if l4 < 4 then (
          sm_rd (S.1 50) 5 l4 fun v4 =>
          sm_n (sm_ir v4 12 : Int32) fun v5 =>
          sm_rd (S.1 50) 5 l4 fun v6 =>
          sm_n (v6 / 12 : Int32) fun v7 =>
          sm_n (sm_mx (v7 - 1) 0 : Int32) fun v8 =>
          x5_sail_95 F (x5_sail F d) F l2 l4 l5 v5 v7 v8 S
        ) else (
          sm_n (sm_wL S 48 2 l5) fun S =>
          sm_cp S 50 5 49 5 0 0 (l4 + 1) fun S =>
          some S
        )
      )
    ) else (
      some S
    )
def x5_search (F : Nat) (l2 : Int64) (l4 : Int32) (l5 : Int32) (S : sm_t) : Option (Int64 × sm_t) :=
  sm_n (sm_wL S 48 2 (-1)) fun S =>
  sm_n (sm_wI S 48 3 l5) fun S =>
  sm_wr S 50 5 0 l4 fun S =>
  sm_rd (S.2.1 40) 120 l4 fun v1 =>
  sm_cV (x5_sail F 8 l2 0 v1 S) fun S =>
  sm_n (S.2.1 48 2) fun v3 =>
  some (v3, S)
def x5_unlikeCells_4 (F : Nat) : Nat → Int32 → Int32 → Int32 → sm_t → Option (Int32 × sm_t)
  | 0, _, _, _, _ => none
  | f + 1, l1, l2, l3, S => if l1 < l3 then (
      some (l2, S)
    ) else (
      sm_rd (S.1 49) 5 l3 fun v1 =>
      sm_cI (x5_wasIn F 49 v1 (l3 - 1) S) fun v2 S =>
      if v2 = 0 then (
        sm_n (l2 + 1 : Int32) fun v3 =>
        x5_unlikeCells_4 F f l1 v3 (l3 + 1) S
      ) else (
        sm_n (l2 + 0 : Int32) fun v4 =>
        x5_unlikeCells_4 F f l1 v4 (l3 + 1) S
      )
    )
def x5_unlikeCells (F : Nat) (l1 : Int32) (S : sm_t) : Option (Int32 × sm_t) :=
  x5_unlikeCells_4 F F l1 0 0 S
def x7_drag (F : Nat) (l1 : Int32) (l2 : Int32) (l3 : Int32) (l4 : Int32) (S : sm_t) : Option (Int32 × sm_t) :=
  sm_cI (x7_isStory F l1 S) fun v1 S =>
  if v1 = 0 then (
    some ((-1), S)
  ) else (
    sm_cI (x1_isCell F l2 S) fun v2 S =>
    if v2 = 0 then (
      some ((-1), S)
    ) else (
      sm_cI (x7_isWithin F l3 4 S) fun v3 S =>
      if v3 = 0 then (
        some ((-1), S)
      ) else (
        sm_cI (x7_isRow F l4 S) fun v4 S =>
        if v4 = 0 then (
          some ((-1), S)
        ) else (
          sm_cI (x7_weighed F l1 S) fun v5 S =>
          if v5 = 0 then (
            sm_cI (x2_greatest F S) fun v6 S =>
            sm_rd (S.2.1 40) 120 v6 fun v7 =>
            sm_cL (x5_search F v7 l2 l3 S) fun v8 S =>
            sm_n (S.2.1 18 5) fun v9 =>
            sm_cV (x7_fraction F v8 v9 S) fun S =>
            sm_cV (x7_renew F l4 (l3 + 1) S) fun S =>
            sm_rd (fun i => 5 + i) 6 l4 fun a12 =>
            sm_an (.int) a12 fun n14 =>
            sm_cp S 49 5 a12 n14 0 0 (l3 + 1) fun S =>
            sm_cI (x5_unlikeCells F l3 S) fun v15 S =>
            some (v15, S)
          ) else (
            some (v5, S)
          )
        )
      )
    )
  )
def x8_wasThere_5 (F : Nat) : Nat → Int32 → Int32 → Int32 → Int32 → sm_t → Option (Int32 × sm_t)
  | 0, _, _, _, _, _ => none
  | f + 1, l1, l2, l3, l4, S => if l1 ≤ l4 then (
      sm_rz l3 S
    ) else (
      if l3 = 0 then (
        sm_rd (S.1 67) 5 l4 fun v1 =>
        if v1 = l2 then (
          x8_wasThere_5 F f l1 l2 1 (l4 + 1) S
        ) else (
          x8_wasThere_5 F f l1 l2 0 (l4 + 1) S
        )
      ) else (
        x8_wasThere_5 F f l1 l2 1 (l4 + 1) S
      )
    )
def x8_wasThere (F : Nat) (l1 : Int32) (l2 : Int32) (S : sm_t) : Option (Int32 × sm_t) :=
  x8_wasThere_5 F F l1 l2 0 0 S
def x8_dragOn_80 (F : Nat) (rc : Int32 → Int32 → Int32 → Int64 → Int32 → sm_t → Option (sm_t)) : Nat → Int32 → Int32 → sm_t → Option (sm_t)
  | 0, _, _, _ => none
  | f + 1, l2, l11, S => if l2 < l11 then (
      some S
    ) else (
      sm_rd (S.1 67) 5 l11 fun v1 =>
      sm_wr S 68 5 l11 v1 fun S =>
      x8_dragOn_80 F rc f l2 (l11 + 1) S
    )
def x8_dragOn_115 (F : Nat) (rc : Int32 → Int32 → Int32 → Int64 → Int32 → sm_t → Option (sm_t)) : Nat → Int32 → Int32 → Int32 → Int64 → Int32 → Int32 → sm_t → Option (sm_t)
  | 0, _, _, _, _, _, _, _ => none
  | f + 1, l1, l2, l3, l8, l10, l11, S => if (l3 + 12) + 1 < l11 then (
      some S
    ) else (
      sm_cI (x8_isCell F l11 S) fun v1 S =>
      if v1 = 0 then (
        x8_dragOn_115 F rc f l1 l2 l3 l8 l10 (l11 + 1) S
      ) else (
        sm_cI (x8_farOf F l3 l11 S) fun v2 S =>
        if 1 < v2 then (
          x8_dragOn_115 F rc f l1 l2 l3 l8 l10 (l11 + 1) S
        ) else (
          sm_cV (rc (l1 + 1) l2 l11 l8 l10 S) fun S =>
          x8_dragOn_115 F rc f l1 l2 l3 l8 l10 (l11 + 1) S
        )
      )
    )
def x8_dragOn_40 (F : Nat) (rc : Int32 → Int32 → Int32 → Int64 → Int32 → sm_t → Option (sm_t)) (l1 : Int32) (l2 : Int32) (l3 : Int32) (l8 : Int64) (t0 : Int32) (t1 : Int32) (S : sm_t) : Option (sm_t) :=
  sm_n (t0 + t1 : Int32) fun v1 =>
  sm_wr S 67 5 l1 l3 fun S =>
  if l1 = l2 then (
    sm_n (S.2.1 52 26) fun v2 =>
    if l8 ≤ v2 then (
      some S
    ) else (
      sm_n (sm_wL S 52 26 l8) fun S =>
      sm_n (sm_wI S 52 27 v1) fun S =>
      x8_dragOn_80 F rc F l2 0 S
    )
  ) else (
    sm_n ((l3 - 12) - 1 : Int32) fun v3 =>
    x8_dragOn_115 F rc F l1 l2 l3 l8 v1 v3 S
  )
def x8_dragOn_25 (F : Nat) (rc : Int32 → Int32 → Int32 → Int64 → Int32 → sm_t → Option (sm_t)) (l1 : Int32) (l2 : Int32) (l3 : Int32) (l6 : Int32) (l7 : Int32) (t0 : Int64) (t1 : Int64) (S : sm_t) : Option (sm_t) :=
  sm_n (t0 + t1 : Int64) fun v1 =>
  if l7 = 0 then (
    x8_dragOn_40 F rc l1 l2 l3 v1 l6 1 S
  ) else (
    x8_dragOn_40 F rc l1 l2 l3 v1 l6 0 S
  )
def x8_dragOn (F : Nat) : Nat → Int32 → Int32 → Int32 → Int64 → Int32 → sm_t → Option (sm_t)
  | 0, _, _, _, _, _, _ => none
  | d + 1, l1, l2, l3, l4, l6, S => sm_cI (x8_wasThere F l1 l3 S) fun v1 S =>
    if v1 = 0 then (
      sm_rd (S.2.1 66) 120 l3 fun v2 =>
      x8_dragOn_25 F (x8_dragOn F d) l1 l2 l3 l6 v1 l4 v2 S
    ) else (
      x8_dragOn_25 F (x8_dragOn F d) l1 l2 l3 l6 v1 l4 0 S
    )
def x8_drag_102 (F : Nat) (S : sm_t) : Option (Int32 × sm_t) :=
  sm_n (S.2.1 52 26) fun v1 =>
  sm_n (S.2.1 52 23) fun v2 =>
  sm_n (S.1 52 27) fun v3 =>
  sm_cI (x8_part F v1 v2 v3 S) fun v4 S =>
  some (v4, S)
def x8_drag_70 (F : Nat) : Nat → Int32 → Int32 → Int32 → sm_t → Option (Int32 × sm_t)
  | 0, _, _, _, _ => none
  | f + 1, l3, l4, l6, S => if l3 < l6 then (
      x8_drag_102 F S
    ) else (
      sm_rd (S.1 68) 5 l6 fun v1 =>
      sm_wr S 55 240 ((40 * l4) + l6) v1 fun S =>
      x8_drag_70 F f l3 l4 (l6 + 1) S
    )
def x8_drag (F : Nat) (l1 : Int32) (l2 : Int32) (l3 : Int32) (l4 : Int32) (S : sm_t) : Option (Int32 × sm_t) :=
  sm_cI (x8_isCell F l2 S) fun v1 S =>
  if v1 = 0 then (
    some ((-1), S)
  ) else (
    sm_cI (x8_in F l3 0 4 S) fun v2 S =>
    if v2 = 0 then (
      some ((-1), S)
    ) else (
      sm_cI (x8_isRow F l4 S) fun v3 S =>
      if v3 = 0 then (
        some ((-1), S)
      ) else (
        sm_cI (x8_weigh F l1 S) fun v4 S =>
        if 0 ≤ v4 then (
          sm_n (sm_wL S 52 26 (-1)) fun S =>
          sm_cV (x8_dragOn F 8 0 l3 l2 0 0 S) fun S =>
          sm_cI (x8_row F l4 (l3 + 1) S) fun v6 S =>
          x8_drag_70 F F l3 l4 0 S
        ) else (
          some (v4, S)
        )
      )
    )
  )
def x3_comesIn_61 (F : Nat) (c9 : Int32 → Int32 → Int32 → Int32 → Int32 → Int32 → sm_t → Option (Int32 × sm_t)) (l1 : Int32) (l2 : Int32) (l3 : Int32) (l4 : Int32) (l5 : Int32) (l6 : Int32) (l7 : Int32) (S : sm_t) : Option (Int32 × sm_t) :=
  if l4 < 0 then (
    sm_cI (x1_gone F l5 l7 S) fun v1 S =>
    c9 l1 l2 l3 l4 v1 (l6 + 1) S
  ) else (
    if l4 / 8 = l6 then (
      sm_n (sm_ir l4 8 : Int32) fun v2 =>
      sm_cI (x1_gone F l5 v2 S) fun v3 S =>
      c9 l1 l2 l3 l4 v3 (l6 + 1) S
    ) else (
      sm_cI (x1_gone F l5 l7 S) fun v4 S =>
      c9 l1 l2 l3 l4 v4 (l6 + 1) S
    )
  )
def x3_comesIn_98 (F : Nat) (l1 : Int32) (l2 : Int32) (l5 : Int32) (S : sm_t) : Option (Int32 × sm_t) :=
  sm_cI (x1_apart F l5 l1 S) fun v1 S =>
  if l2 < v1 then (
    some (0, S)
  ) else (
    some (1, S)
  )
def x3_comesIn_9 (F : Nat) : Nat → Int32 → Int32 → Int32 → Int32 → Int32 → Int32 → sm_t → Option (Int32 × sm_t)
  | 0, _, _, _, _, _, _, _ => none
  | f + 1, l1, l2, l3, l4, l5, l6, S => sm_n (S.1 19 1) fun v1 =>
    if v1 ≤ l6 then (
      x3_comesIn_98 F l1 l2 l5 S
    ) else (
      sm_cI (x1_apart F l5 l1 S) fun v2 S =>
      if l2 < v2 then (
        sm_rd (S.1 20) 6 l6 fun v3 =>
        if l3 < 0 then (
          x3_comesIn_61 F (x3_comesIn_9 F f) l1 l2 l3 l4 l5 l6 v3 S
        ) else (
          if l3 / 8 = l6 then (
            sm_n (sm_ir l3 8 : Int32) fun v4 =>
            sm_cI (x1_gone F l5 v4 S) fun v5 S =>
            x3_comesIn_9 F f l1 l2 l3 l4 v5 (l6 + 1) S
          ) else (
            x3_comesIn_61 F (x3_comesIn_9 F f) l1 l2 l3 l4 l5 l6 v3 S
          )
        )
      ) else (
        some (1, S)
      )
    )
def x3_comesIn (F : Nat) (l1 : Int32) (l2 : Int32) (l3 : Int32) (l4 : Int32) (S : sm_t) : Option (Int32 × sm_t) :=
  sm_n (S.1 19 0) fun v1 =>
  x3_comesIn_9 F F l1 l2 l3 l4 v1 0 S
def x3_toldAs (F : Nat) (l0 : Int32) (S : sm_t) : Option (Int32 × sm_t) :=
  some (((l0 / 8) * 10) + (sm_ir l0 8), S)
def x3_firstChange_2 (F : Nat) : Nat → Int32 → Int32 → Int32 → sm_t → Option (Int32 × sm_t)
  | 0, _, _, _, _ => none
  | f + 1, l1, l2, l3, S => sm_n (S.1 19 1) fun v1 =>
    if v1 * 8 ≤ l3 then (
      some ((-9), S)
    ) else (
      sm_cI (x3_comesIn F l1 l2 l3 (-9) S) fun v2 S =>
      if v2 = 0 then (
        x3_firstChange_2 F f l1 l2 (l3 + 1) S
      ) else (
        sm_cI (x3_toldAs F l3 S) fun v3 S =>
        some (v3, S)
      )
    )
def x3_firstChange (F : Nat) (l1 : Int32) (l2 : Int32) (S : sm_t) : Option (Int32 × sm_t) :=
  x3_firstChange_2 F F l1 l2 0 S
def x3_firstTwoChanges_52 (F : Nat) (l4 : Int32) (l6 : Int32) (S : sm_t) : Option (Int32 × sm_t) :=
  sm_cI (x3_toldAs F l4 S) fun v1 S =>
  sm_cI (x3_toldAs F l6 S) fun v2 S =>
  some ((v1 + 100) + (100 * v2), S)
def x3_firstTwoChanges_33 (F : Nat) (c11 : Int32 → Int32 → Int32 → Int32 → sm_t → Option (Int32 × sm_t)) : Nat → Int32 → Int32 → Int32 → Int32 → Int32 → sm_t → Option (Int32 × sm_t)
  | 0, _, _, _, _, _, _ => none
  | f + 1, l1, l2, l3, l4, l6, S => if l3 ≤ l6 then (
      c11 l1 l2 l3 (l4 + 1) S
    ) else (
      sm_cI (x3_comesIn F l1 l2 l4 l6 S) fun v1 S =>
      if v1 = 0 then (
        x3_firstTwoChanges_33 F c11 f l1 l2 l3 l4 (l6 + 1) S
      ) else (
        x3_firstTwoChanges_52 F l4 l6 S
      )
    )
def x3_firstTwoChanges_11 (F : Nat) : Nat → Int32 → Int32 → Int32 → Int32 → sm_t → Option (Int32 × sm_t)
  | 0, _, _, _, _, _ => none
  | f + 1, l1, l2, l3, l4, S => if l3 ≤ l4 then (
      some ((-9), S)
    ) else (
      sm_n (((l4 / 8) + 1) * 8 : Int32) fun v1 =>
      x3_firstTwoChanges_33 F (x3_firstTwoChanges_11 F f) F l1 l2 l3 l4 v1 S
    )
def x3_firstTwoChanges (F : Nat) (l1 : Int32) (l2 : Int32) (S : sm_t) : Option (Int32 × sm_t) :=
  sm_n (S.1 19 1) fun v1 =>
  sm_n (v1 * 8 : Int32) fun v2 =>
  x3_firstTwoChanges_11 F F l1 l2 v2 0 S
def x7_brought (F : Nat) (l1 : Int32) (l2 : Int32) (S : sm_t) : Option (Int32 × sm_t) :=
  sm_cI (x1_isCell F l1 S) fun v1 S =>
  if v1 = 0 then (
    some ((-1), S)
  ) else (
    sm_cI (x7_isWithin F l2 5 S) fun v2 S =>
    if v2 = 0 then (
      some ((-1), S)
    ) else (
      sm_cI (x3_comesIn F l1 l2 (-9) (-9) S) fun v3 S =>
      if v3 = 0 then (
        sm_cI (x3_firstChange F l1 l2 S) fun v4 S =>
        if v4 = (-9) then (
          sm_cI (x3_firstTwoChanges F l1 l2 S) fun v5 S =>
          if v5 = (-9) then (
            some ((-9), S)
          ) else (
            sm_n (sm_wI S 3 11 v5) fun S =>
            some (2, S)
          )
        ) else (
          sm_n (sm_wI S 3 11 v4) fun S =>
          some (1, S)
        )
      ) else (
        sm_n (sm_wI S 3 11 0) fun S =>
        some (0, S)
      )
    )
  )
def x8_comesIn_26 (F : Nat) : Nat → Int32 → Int32 → Int32 → Int32 → Int32 → sm_t → Option (Int32 × sm_t)
  | 0, _, _, _, _, _, _ => none
  | f + 1, l1, l2, l3, l4, l5, S => sm_cI (x8_hours F S) fun v1 S =>
    if v1 ≤ l5 then (
      sm_rz l4 S
    ) else (
      sm_rd (S.1 69) 6 l5 fun v2 =>
      sm_cI (x8_goesTo F l3 v2 S) fun v3 S =>
      if l4 = 0 then (
        sm_cI (x8_farOf F v3 l1 S) fun v4 S =>
        if l2 < v4 then (
          x8_comesIn_26 F f l1 l2 v3 0 (l5 + 1) S
        ) else (
          x8_comesIn_26 F f l1 l2 v3 1 (l5 + 1) S
        )
      ) else (
        x8_comesIn_26 F f l1 l2 v3 1 (l5 + 1) S
      )
    )
def x8_comesIn (F : Nat) (l1 : Int32) (l2 : Int32) (S : sm_t) : Option (Int32 × sm_t) :=
  sm_rd (S.1 59) 15 0 fun v1 =>
  sm_cI (x8_farOf F v1 l1 S) fun v2 S =>
  if l2 < v2 then (
    x8_comesIn_26 F F l1 l2 v1 0 0 S
  ) else (
    x8_comesIn_26 F F l1 l2 v1 1 0 S
  )
def x8_brought_114 (F : Nat) (l4 : Int32) (l5 : Int32) (S : sm_t) : Option (Int32 × sm_t) :=
  sm_cI (x8_ask F ((10 * l4) + l5) 1 S) fun v1 S =>
  some (v1, S)
def x8_brought_134 (F : Nat) (c69 : Int32 → Int32 → Int32 → Int32 → sm_t → Option (Int32 × sm_t)) (l1 : Int32) (l2 : Int32) (l3 : Int32) (l4 : Int32) (S : sm_t) : Option (Int32 × sm_t) :=
  sm_cI (x8_courseOf F l4 S) fun v1 S =>
  sm_wr S 69 6 l4 v1 fun S =>
  c69 l1 l2 l3 (l4 + 1) S
def x8_brought_78 (F : Nat) (c69 : Int32 → Int32 → Int32 → Int32 → sm_t → Option (Int32 × sm_t)) : Nat → Int32 → Int32 → Int32 → Int32 → Int32 → sm_t → Option (Int32 × sm_t)
  | 0, _, _, _, _, _, _ => none
  | f + 1, l1, l2, l3, l4, l5, S => if 8 ≤ l5 then (
      x8_brought_134 F c69 l1 l2 l3 l4 S
    ) else (
      sm_wr S 69 6 l4 l5 fun S =>
      sm_cI (x8_courseOf F l4 S) fun v1 S =>
      if l5 = v1 then (
        x8_brought_78 F c69 f l1 l2 l3 l4 (l5 + 1) S
      ) else (
        sm_cI (x8_comesIn F l1 l2 S) fun v2 S =>
        if v2 = 0 then (
          x8_brought_78 F c69 f l1 l2 l3 l4 (l5 + 1) S
        ) else (
          x8_brought_114 F l4 l5 S
        )
      )
    )
def x8_brought_293 (F : Nat) (l5 : Int32) (l6 : Int32) (l7 : Int32) (l8 : Int32) (S : sm_t) : Option (Int32 × sm_t) :=
  sm_cI (x8_ask F (((10 * l5) + l6) + (100 * ((1 + (10 * l7)) + l8))) 2 S) fun v1 S =>
  some (v1, S)
def x8_brought_156 (F : Nat) : Nat → Int32 → Int32 → Int32 → Int32 → sm_t → Option (Int32 × sm_t)
  | 0, _, _, _, _, _ => none
  | f + 1, l1, l2, l3, l4, S => if ((8 * l3) * 8) * l3 ≤ l4 then (
      some ((-9), S)
    ) else (
      if 64 * l3 = 0 then none else
      sm_n (l4 / (64 * l3) : Int32) fun v2 =>
      if 8 * l3 = 0 then none else
      sm_n (sm_ir (l4 / (8 * l3)) 8 : Int32) fun v4 =>
      if l3 = 0 then none else
      sm_n (sm_ir (l4 / 8) l3 : Int32) fun v6 =>
      sm_n (sm_ir l4 8 : Int32) fun v7 =>
      if v6 ≤ v2 then (
        x8_brought_156 F f l1 l2 l3 (l4 + 1) S
      ) else (
        sm_cI (x8_courseOf F v2 S) fun v8 S =>
        if v4 = v8 then (
          x8_brought_156 F f l1 l2 l3 (l4 + 1) S
        ) else (
          sm_cI (x8_courseOf F v6 S) fun v9 S =>
          if v7 = v9 then (
            x8_brought_156 F f l1 l2 l3 (l4 + 1) S
          ) else (
            sm_wr S 69 6 v2 v4 fun S =>
            sm_wr S 69 6 v6 v7 fun S =>
            sm_cI (x8_comesIn F l1 l2 S) fun v10 S =>
            sm_cI (x8_courseOf F v2 S) fun v11 S =>
            sm_wr S 69 6 v2 v11 fun S =>
            sm_cI (x8_courseOf F v6 S) fun v12 S =>
            sm_wr S 69 6 v6 v12 fun S =>
            if v10 = 0 then (
              x8_brought_156 F f l1 l2 l3 (l4 + 1) S
            ) else (
              x8_brought_293 F v2 v4 v6 v7 S
            )
          )
        )
      )
    )
def x8_brought_69 (F : Nat) : Nat → Int32 → Int32 → Int32 → Int32 → sm_t → Option (Int32 × sm_t)
  | 0, _, _, _, _, _ => none
  | f + 1, l1, l2, l3, l4, S => if l3 ≤ l4 then (
      x8_brought_156 F F l1 l2 l3 0 S
    ) else (
      x8_brought_78 F (x8_brought_69 F f) F l1 l2 l3 l4 0 S
    )
def x8_brought_45 (F : Nat) (l1 : Int32) (l2 : Int32) (S : sm_t) : Option (Int32 × sm_t) :=
  sm_cI (x8_comesIn F l1 l2 S) fun v1 S =>
  if v1 = 0 then (
    sm_cI (x8_hours F S) fun v2 S =>
    x8_brought_69 F F l1 l2 v2 0 S
  ) else (
    sm_cI (x8_ask F 0 0 S) fun v3 S =>
    some (v3, S)
  )
def x8_brought_20 (F : Nat) : Nat → Int32 → Int32 → Int32 → sm_t → Option (Int32 × sm_t)
  | 0, _, _, _, _ => none
  | f + 1, l1, l2, l3, S => sm_cI (x8_hours F S) fun v1 S =>
    if v1 ≤ l3 then (
      x8_brought_45 F l1 l2 S
    ) else (
      sm_cI (x8_courseOf F l3 S) fun v2 S =>
      sm_wr S 69 6 l3 v2 fun S =>
      x8_brought_20 F f l1 l2 (l3 + 1) S
    )
def x8_brought (F : Nat) (l1 : Int32) (l2 : Int32) (S : sm_t) : Option (Int32 × sm_t) :=
  sm_cI (x8_isCell F l1 S) fun v1 S =>
  if v1 = 0 then (
    some ((-1), S)
  ) else (
    sm_cI (x8_in F l2 0 5 S) fun v2 S =>
    if v2 = 0 then (
      some ((-1), S)
    ) else (
      x8_brought_20 F F l1 l2 0 S
    )
  )
def x7_draw_133 (F : Nat) (c60 : Int32 → Int64 → Int32 → Int32 → sm_t → Option (Int32 × sm_t)) (l2 : Int32) (l3 : Int64) (l5 : Int32) (l6 : Int32) (l7 : Int32) (S : sm_t) : Option (Int32 × sm_t) :=
  sm_cI (x1_gone F l5 l7 S) fun v1 S =>
  sm_rd (fun i => 5 + i) 6 l2 fun a2 =>
  sm_an (.int) a2 fun n4 =>
  sm_wr S a2 n4 (l6 + 1) v1 fun S =>
  c60 l2 l3 v1 (l6 + 1) S
def x7_draw_60 (F : Nat) : Nat → Int32 → Int64 → Int32 → Int32 → sm_t → Option (Int32 × sm_t)
  | 0, _, _, _, _, _ => none
  | f + 1, l2, l3, l5, l6, S => sm_n (S.1 19 1) fun v1 =>
    if v1 ≤ l6 then (
      some (l3.toInt32, S)
    ) else (
      sm_n (sm_lr (l3 * 48271) 2147483647 : Int64) fun v2 =>
      sm_rd (S.1 20) 6 l6 fun v3 =>
      sm_n ((sm_lr v2 4).toInt32 : Int32) fun v4 =>
      if v4 = 2 then (
        sm_cI (x1_turned F v3 (-1) S) fun v5 S =>
        x7_draw_133 F (x7_draw_60 F f) l2 v2 l5 l6 v5 S
      ) else (
        if v4 = 3 then (
          sm_cI (x1_turned F v3 1 S) fun v6 S =>
          x7_draw_133 F (x7_draw_60 F f) l2 v2 l5 l6 v6 S
        ) else (
          x7_draw_133 F (x7_draw_60 F f) l2 v2 l5 l6 v3 S
        )
      )
    )
def x7_draw (F : Nat) (l1 : Int32) (l2 : Int32) (S : sm_t) : Option (Int32 × sm_t) :=
  if l1 < 1 then (
    some ((-1), S)
  ) else (
    if 2147483646 < l1 then (
      some ((-1), S)
    ) else (
      sm_cI (x7_isRow F l2 S) fun v1 S =>
      if v1 = 0 then (
        some ((-1), S)
      ) else (
        sm_n (S.1 19 1) fun v2 =>
        sm_cV (x7_renew F l2 (v2 + 1) S) fun S =>
        sm_n (l1.toInt64 : Int64) fun v4 =>
        sm_n (S.1 19 0) fun v5 =>
        sm_rd (fun i => 5 + i) 6 l2 fun a6 =>
        sm_an (.int) a6 fun n8 =>
        sm_wr S a6 n8 0 v5 fun S =>
        x7_draw_60 F F l2 v4 v5 0 S
      )
    )
  )
def x8_draw_109 (F : Nat) (c57 : Int32 → Int64 → Int32 → Int32 → sm_t → Option (Int32 × sm_t)) (l2 : Int32) (l3 : Int64) (l5 : Int32) (l6 : Int32) (t0 : Int32) (S : sm_t) : Option (Int32 × sm_t) :=
  sm_cI (x8_courseOf F l6 S) fun v1 S =>
  sm_cI (x8_turned F v1 t0 S) fun v2 S =>
  sm_cI (x8_goesTo F l5 v2 S) fun v3 S =>
  sm_wr S 55 240 (((40 * l2) + l6) + 1) v3 fun S =>
  c57 l2 l3 v3 (l6 + 1) S
def x8_draw_57 (F : Nat) : Nat → Int32 → Int64 → Int32 → Int32 → sm_t → Option (Int32 × sm_t)
  | 0, _, _, _, _, _ => none
  | f + 1, l2, l3, l5, l6, S => sm_cI (x8_hours F S) fun v1 S =>
    if v1 ≤ l6 then (
      some (l3.toInt32, S)
    ) else (
      sm_n (sm_lr (48271 * l3) 2147483647 : Int64) fun v2 =>
      if 2 ≤ sm_lr v2 4 then (
        if sm_lr v2 4 = 2 then (
          x8_draw_109 F (x8_draw_57 F f) l2 v2 l5 l6 (-1) S
        ) else (
          x8_draw_109 F (x8_draw_57 F f) l2 v2 l5 l6 1 S
        )
      ) else (
        x8_draw_109 F (x8_draw_57 F f) l2 v2 l5 l6 0 S
      )
    )
def x8_draw (F : Nat) (l1 : Int32) (l2 : Int32) (S : sm_t) : Option (Int32 × sm_t) :=
  sm_cI (x8_in F l1 1 2147483646 S) fun v1 S =>
  if v1 = 0 then (
    some ((-1), S)
  ) else (
    sm_cI (x8_isRow F l2 S) fun v2 S =>
    if v2 = 0 then (
      some ((-1), S)
    ) else (
      sm_cI (x8_hours F S) fun v3 S =>
      sm_cI (x8_row F l2 (v3 + 1) S) fun v4 S =>
      sm_n (l1.toInt64 : Int64) fun v5 =>
      sm_rd (S.1 59) 15 0 fun v6 =>
      sm_wr S 55 240 (40 * l2) v6 fun S =>
      x8_draw_57 F F l2 v5 v6 0 S
    )
  )
def x0_undoneBits_4 (F : Nat) : Nat → Int32 → Int32 → sm_t → Option (Int32 × sm_t)
  | 0, _, _, _ => none
  | f + 1, l1, l2, S => sm_n (S.1 22 1) fun v1 =>
    if v1 ≤ l2 then (
      some (l1, S)
    ) else (
      sm_rd (fun i => 24 + i) 12 l2 fun a2 =>
      sm_on 5 a2 (
      sm_n (S.1 a2 4) fun v4 =>
      if v4 = 0 then (
        sm_n (l1 ||| 0 : Int32) fun v5 =>
        x0_undoneBits_4 F f v5 (l2 + 1) S
      ) else (
        sm_n (l1 ||| (1 <<< (l2 &&& 31)) : Int32) fun v6 =>
        x0_undoneBits_4 F f v6 (l2 + 1) S
      )
      )
    )
def x0_undoneBits (F : Nat) (S : sm_t) : Option (Int32 × sm_t) :=
  x0_undoneBits_4 F F 0 0 S
def x7_image_46 (F : Nat) (l1 : Int32) (S : sm_t) : Option (Int32 × sm_t) :=
  sm_rd (fun i => 5 + i) 6 l1 fun a1 =>
  sm_cI (x0_undoneBits F S) fun v2 S =>
  sm_an (.int) a1 fun n4 =>
  sm_wr S a1 n4 15 v2 fun S =>
  some (16, S)
def x7_image_18 (F : Nat) : Nat → Int32 → Int32 → sm_t → Option (Int32 × sm_t)
  | 0, _, _, _ => none
  | f + 1, l1, l2, S => if 15 ≤ l2 then (
      x7_image_46 F l1 S
    ) else (
      sm_rd (fun i => 5 + i) 6 l1 fun a1 =>
      sm_cI (x3_number F l2 S) fun v2 S =>
      sm_an (.int) a1 fun n4 =>
      sm_wr S a1 n4 l2 v2 fun S =>
      x7_image_18 F f l1 (l2 + 1) S
    )
def x7_image (F : Nat) (l1 : Int32) (S : sm_t) : Option (Int32 × sm_t) :=
  sm_cI (x7_isRow F l1 S) fun v1 S =>
  if v1 = 0 then (
    some ((-1), S)
  ) else (
    sm_cV (x7_renew F l1 16 S) fun S =>
    x7_image_18 F F l1 0 S
  )
def x8_undoneSet_4 (F : Nat) : Nat → Int32 → Int32 → sm_t → Option (Int32 × sm_t)
  | 0, _, _, _ => none
  | f + 1, l1, l2, S => sm_n (S.1 52 17) fun v1 =>
    if v1 ≤ l2 then (
      some (l1, S)
    ) else (
      sm_cI (x8_tell F l2 4 S) fun v2 S =>
      sm_n (l1 ||| (v2 <<< (l2 &&& 31)) : Int32) fun v3 =>
      x8_undoneSet_4 F f v3 (l2 + 1) S
    )
def x8_undoneSet (F : Nat) (S : sm_t) : Option (Int32 × sm_t) :=
  x8_undoneSet_4 F F 0 0 S
def x8_image_48 (F : Nat) (l1 : Int32) (S : sm_t) : Option (Int32 × sm_t) :=
  sm_cI (x8_undoneSet F S) fun v1 S =>
  sm_wr S 55 240 ((40 * l1) + 15) v1 fun S =>
  some (16, S)
def x8_image_19 (F : Nat) : Nat → Int32 → Int32 → sm_t → Option (Int32 × sm_t)
  | 0, _, _, _ => none
  | f + 1, l1, l2, S => if 15 ≤ l2 then (
      x8_image_48 F l1 S
    ) else (
      sm_rd (S.1 59) 15 l2 fun v1 =>
      sm_wr S 55 240 ((40 * l1) + l2) v1 fun S =>
      x8_image_19 F f l1 (l2 + 1) S
    )
def x8_image (F : Nat) (l1 : Int32) (S : sm_t) : Option (Int32 × sm_t) :=
  sm_cI (x8_isRow F l1 S) fun v1 S =>
  if v1 = 0 then (
    some ((-1), S)
  ) else (
    sm_cI (x8_row F l1 16 S) fun v2 S =>
    x8_image_19 F F l1 0 S
  )
def x3_couldTell_114 (F : Nat) (c73 : Nat → Int32 → Int32 → Int32 → sm_t → Option (Int32 × sm_t)) (l0 : Nat) (l1 : Int32) (l2 : Int32) (l3 : Int32) (l4 : Int32) (S : sm_t) : Option (Int32 × sm_t) :=
  if l1 < l3 then (
    sm_n (l2 + 0 : Int32) fun v1 =>
    c73 l0 l1 v1 (l3 + 1) S
  ) else (
    sm_n (l2 + l4 : Int32) fun v2 =>
    c73 l0 l1 v2 (l3 + 1) S
  )
def x3_couldTell_134 (F : Nat) (l2 : Int32) (S : sm_t) : Option (Int32 × sm_t) :=
  if l2 ≤ 0 then (
    some (0, S)
  ) else (
    some (1, S)
  )
def x3_couldTell_73 (F : Nat) : Nat → Nat → Int32 → Int32 → Int32 → sm_t → Option (Int32 × sm_t)
  | 0, _, _, _, _, _ => none
  | f + 1, l0, l1, l2, l3, S => if 6 < l3 then (
      x3_couldTell_134 F l2 S
    ) else (
      sm_an (.int) l0 fun n2 =>
      sm_rd (S.1 l0) n2 (8 + l3) fun v3 =>
      if l1 < l3 then (
        if v3 = (-9) then (
          x3_couldTell_114 F (x3_couldTell_73 F f) l0 l1 l2 l3 v3 S
        ) else (
          some (0, S)
        )
      ) else (
        sm_cI (x7_isWithin F v3 9 S) fun v4 S =>
        if v4 = 0 then (
          some (0, S)
        ) else (
          x3_couldTell_114 F (x3_couldTell_73 F f) l0 l1 l2 l3 v3 S
        )
      )
    )
def x3_couldTell_28 (F : Nat) : Nat → Nat → Int32 → Int32 → sm_t → Option (Int32 × sm_t)
  | 0, _, _, _, _ => none
  | f + 1, l0, l1, l2, S => if 6 ≤ l2 then (
      x3_couldTell_73 F F l0 l1 0 0 S
    ) else (
      sm_an (.int) l0 fun n2 =>
      sm_rd (S.1 l0) n2 (2 + l2) fun v3 =>
      if l1 ≤ l2 then (
        if v3 = (-9) then (
          x3_couldTell_28 F f l0 l1 (l2 + 1) S
        ) else (
          some (0, S)
        )
      ) else (
        sm_cI (x1_isSide F v3 S) fun v4 S =>
        if v4 = 0 then (
          some (0, S)
        ) else (
          x3_couldTell_28 F f l0 l1 (l2 + 1) S
        )
      )
    )
def x3_couldTell (F : Nat) (l0 : Nat) (S : sm_t) : Option (Int32 × sm_t) :=
  sm_an (.int) l0 fun n2 =>
  sm_rd (S.1 l0) n2 0 fun v3 =>
  sm_cI (x1_isCell F v3 S) fun v4 S =>
  if v4 = 0 then (
    some (0, S)
  ) else (
    sm_rd (S.1 l0) n2 1 fun v5 =>
    sm_cI (x7_isWithin F v5 6 S) fun v6 S =>
    if v6 = 0 then (
      some (0, S)
    ) else (
      sm_rd (S.1 l0) n2 1 fun v7 =>
      x3_couldTell_28 F F l0 v7 0 S
    )
  )
def x3_goOn (F : Nat) (l1 : Nat) (S : sm_t) : Option (sm_t) :=
  sm_an (.int) l1 fun n2 =>
  sm_rd (S.1 l1) n2 0 fun v3 =>
  sm_n (sm_wI S 19 0 v3) fun S =>
  sm_rd (S.1 l1) n2 1 fun v4 =>
  sm_n (sm_wI S 19 1 v4) fun S =>
  sm_n (S.1 19 1) fun v5 =>
  sm_cp S l1 n2 20 6 2 0 v5 fun S =>
  sm_n (S.1 19 1) fun v6 =>
  sm_cp S l1 n2 21 7 8 0 (v6 + 1) fun S =>
  some S
def x0_undoBits_2 (F : Nat) : Nat → Int32 → Int32 → sm_t → Option (sm_t)
  | 0, _, _, _ => none
  | f + 1, l1, l2, S => sm_n (S.1 22 1) fun v1 =>
    if v1 ≤ l2 then (
      some S
    ) else (
      sm_rd (fun i => 24 + i) 12 l2 fun a2 =>
      if (l1 >>> (l2 &&& 31)) &&& 1 = 1 then (
        sm_on 5 a2 (
        sm_n (sm_wI S a2 4 1) fun S =>
        x0_undoBits_2 F f l1 (l2 + 1) S
        )
      ) else (
        sm_on 5 a2 (
        sm_n (sm_wI S a2 4 0) fun S =>
        x0_undoBits_2 F f l1 (l2 + 1) S
        )
      )
    )
def x0_undoBits (F : Nat) (l1 : Int32) (S : sm_t) : Option (sm_t) :=
  x0_undoBits_2 F F l1 0 S
def x7_on (F : Nat) (l1 : Int32) (S : sm_t) : Option (Int32 × sm_t) :=
  sm_cI (x7_isRow F l1 S) fun v1 S =>
  if v1 = 0 then (
    some ((-1), S)
  ) else (
    sm_rd (S.1 11) 6 l1 fun v2 =>
    if v2 = (-1) then (
      sm_cI (x7_found F 1 S) fun v3 S =>
      some (v3, S)
    ) else (
      sm_rd (S.1 11) 6 l1 fun v4 =>
      if v4 = 16 then (
        sm_rd (fun i => 5 + i) 6 l1 fun a5 =>
        sm_cI (x3_couldTell F a5 S) fun v6 S =>
        if v6 = 0 then (
          sm_cI (x7_found F 3 S) fun v7 S =>
          some (v7, S)
        ) else (
          sm_an (.int) a5 fun n9 =>
          sm_rd (S.1 a5) n9 15 fun v10 =>
          if v10 < 0 then (
            sm_cI (x7_found F 3 S) fun v11 S =>
            some (v11, S)
          ) else (
            sm_rd (S.1 a5) n9 15 fun v12 =>
            sm_n (S.1 22 1) fun v13 =>
            if v12 < 1 <<< (v13 &&& 31) then (
              sm_cV (x3_goOn F a5 S) fun S =>
              sm_rd (S.1 a5) n9 15 fun v15 =>
              sm_cV (x0_undoBits F v15 S) fun S =>
              some (1, S)
            ) else (
              sm_cI (x7_found F 3 S) fun v17 S =>
              some (v17, S)
            )
          )
        )
      ) else (
        sm_cI (x7_found F 5 S) fun v18 S =>
        some (v18, S)
      )
    )
  )
def x8_isImage_176 (F : Nat) (c124 : Int32 → Int32 → Int32 → Int32 → Int32 → sm_t → Option (Int32 × sm_t)) (l1 : Int32) (l2 : Int32) (l4 : Int32) (l5 : Int32) (l6 : Int32) (t0 : Int32) (S : sm_t) : Option (Int32 × sm_t) :=
  if l2 < l5 then (
    sm_n (l4 + 0 : Int32) fun v1 =>
    c124 l1 l2 t0 v1 (l5 + 1) S
  ) else (
    sm_n (l4 + l6 : Int32) fun v2 =>
    c124 l1 l2 t0 v2 (l5 + 1) S
  )
def x8_isImage_200 (F : Nat) (l3 : Int32) (l4 : Int32) (S : sm_t) : Option (Int32 × sm_t) :=
  if l3 = 0 then (
    some (0, S)
  ) else (
    if l4 ≤ 0 then (
      some (0, S)
    ) else (
      some (1, S)
    )
  )
def x8_isImage_124 (F : Nat) : Nat → Int32 → Int32 → Int32 → Int32 → Int32 → sm_t → Option (Int32 × sm_t)
  | 0, _, _, _, _, _, _ => none
  | f + 1, l1, l2, l3, l4, l5, S => if 6 < l5 then (
      x8_isImage_200 F l3 l4 S
    ) else (
      if l3 = 0 then (
        x8_isImage_200 F l3 l4 S
      ) else (
        sm_cI (x8_rowAt F l1 (8 + l5) S) fun v1 S =>
        if l2 < l5 then (
          if v1 = (-9) then (
            x8_isImage_176 F (x8_isImage_124 F f) l1 l2 l4 l5 v1 1 S
          ) else (
            x8_isImage_176 F (x8_isImage_124 F f) l1 l2 l4 l5 v1 0 S
          )
        ) else (
          sm_cI (x8_in F v1 0 9 S) fun v2 S =>
          x8_isImage_176 F (x8_isImage_124 F f) l1 l2 l4 l5 v1 v2 S
        )
      )
    )
def x8_isImage_63 (F : Nat) : Nat → Int32 → Int32 → Int32 → Int32 → Int32 → sm_t → Option (Int32 × sm_t)
  | 0, _, _, _, _, _, _ => none
  | f + 1, l1, l2, l3, l4, l5, S => if 6 ≤ l5 then (
      x8_isImage_124 F F l1 l2 l3 l4 0 S
    ) else (
      if l3 = 0 then (
        x8_isImage_124 F F l1 l2 l3 l4 0 S
      ) else (
        if l2 ≤ l5 then (
          sm_cI (x8_rowAt F l1 (2 + l5) S) fun v1 S =>
          if v1 = (-9) then (
            x8_isImage_63 F f l1 l2 1 l4 (l5 + 1) S
          ) else (
            x8_isImage_63 F f l1 l2 0 l4 (l5 + 1) S
          )
        ) else (
          sm_cI (x8_rowAt F l1 (2 + l5) S) fun v2 S =>
          sm_cI (x8_isSide F v2 S) fun v3 S =>
          x8_isImage_63 F f l1 l2 v3 l4 (l5 + 1) S
        )
      )
    )
def x8_isImage (F : Nat) (l1 : Int32) (S : sm_t) : Option (Int32 × sm_t) :=
  sm_cI (x8_rowAt F l1 1 S) fun v1 S =>
  sm_cI (x8_rowAt F l1 0 S) fun v2 S =>
  sm_cI (x8_isCell F v2 S) fun v3 S =>
  if v3 = 0 then (
    x8_isImage_63 F F l1 v1 0 0 0 S
  ) else (
    sm_cI (x8_in F v1 0 6 S) fun v4 S =>
    if v4 = 0 then (
      x8_isImage_63 F F l1 v1 0 0 0 S
    ) else (
      sm_cI (x8_rowAt F l1 15 S) fun v5 S =>
      sm_n (S.1 52 17) fun v6 =>
      sm_cI (x8_in F v5 0 ((1 <<< (v6 &&& 31)) - 1) S) fun v7 S =>
      if v7 = 0 then (
        x8_isImage_63 F F l1 v1 0 0 0 S
      ) else (
        x8_isImage_63 F F l1 v1 1 0 0 S
      )
    )
  )
def x8_on_71 (F : Nat) : Nat → Int32 → Int32 → sm_t → Option (Int32 × sm_t)
  | 0, _, _, _ => none
  | f + 1, l1, l3, S => sm_n (S.1 52 17) fun v1 =>
    if v1 ≤ l3 then (
      some (1, S)
    ) else (
      sm_cI (x8_rowAt F l1 15 S) fun v2 S =>
      sm_wr S 63 60 ((5 * l3) + 4) ((v2 >>> (l3 &&& 31)) &&& 1) fun S =>
      x8_on_71 F f l1 (l3 + 1) S
    )
def x8_on_45 (F : Nat) : Nat → Int32 → Int32 → sm_t → Option (Int32 × sm_t)
  | 0, _, _, _ => none
  | f + 1, l1, l3, S => if 15 ≤ l3 then (
      x8_on_71 F F l1 0 S
    ) else (
      sm_cI (x8_rowAt F l1 l3 S) fun v1 S =>
      sm_wr S 59 15 l3 v1 fun S =>
      x8_on_45 F f l1 (l3 + 1) S
    )
def x8_on (F : Nat) (l1 : Int32) (S : sm_t) : Option (Int32 × sm_t) :=
  sm_cI (x8_askedRow F l1 S) fun v1 S =>
  if 0 ≤ v1 then (
    sm_rd (S.1 54) 6 l1 fun v2 =>
    if v2 = 16 then (
      sm_cI (x8_isImage F l1 S) fun v3 S =>
      if v3 = 0 then (
        sm_cI (x8_meets F 3 S) fun v4 S =>
        some (v4, S)
      ) else (
        x8_on_45 F F l1 0 S
      )
    ) else (
      sm_cI (x8_meets F 5 S) fun v5 S =>
      some (v5, S)
    )
  ) else (
    some (v1, S)
  )
def x7_asked (F : Nat) (S : sm_t) : Option (Int32 × sm_t) :=
  sm_n (S.1 3 11) fun v1 =>
  some (v1, S)
def x8_asked (F : Nat) (S : sm_t) : Option (Int32 × sm_t) :=
  sm_n (S.1 52 2) fun v1 =>
  some (v1, S)
def x7_upper (F : Nat) (S : sm_t) : Option (Int64 × sm_t) :=
  sm_n (S.2.1 3 12) fun v1 =>
  some (v1, S)
def x8_upper (F : Nat) (S : sm_t) : Option (Int64 × sm_t) :=
  sm_n (S.2.1 52 3) fun v1 =>
  some (v1, S)
def x7_lower (F : Nat) (S : sm_t) : Option (Int64 × sm_t) :=
  sm_n (S.2.1 3 13) fun v1 =>
  some (v1, S)
def x8_lower (F : Nat) (S : sm_t) : Option (Int64 × sm_t) :=
  sm_n (S.2.1 52 4) fun v1 =>
  some (v1, S)
def x7_storiesThere_4 (F : Nat) : Nat → Int32 → Int32 → sm_t → Option (Int32 × sm_t)
  | 0, _, _, _ => none
  | f + 1, l1, l2, S => if 3 ≤ l2 then (
      some (l1, S)
    ) else (
      sm_rd (S.1 45) 3 l2 fun v1 =>
      if v1 = 0 then (
        sm_n (l1 + 0 : Int32) fun v2 =>
        x7_storiesThere_4 F f v2 (l2 + 1) S
      ) else (
        sm_n (l1 + 1 : Int32) fun v3 =>
        x7_storiesThere_4 F f v3 (l2 + 1) S
      )
    )
def x7_storiesThere (F : Nat) (S : sm_t) : Option (Int32 × sm_t) :=
  x7_storiesThere_4 F F 0 0 S
def x0_voices_4 (F : Nat) : Nat → Int32 → Int32 → sm_t → Option (Int32 × sm_t)
  | 0, _, _, _ => none
  | f + 1, l1, l2, S => sm_n (S.1 22 1) fun v1 =>
    if v1 ≤ l2 then (
      some (l1, S)
    ) else (
      sm_rd (fun i => 24 + i) 12 l2 fun a2 =>
      sm_on 5 a2 (
      sm_cI (x6_is F a2 5 S) fun v3 S =>
      if v3 = 0 then (
        sm_n (l1 + 0 : Int32) fun v5 =>
        x0_voices_4 F f v5 (l2 + 1) S
      ) else (
        sm_n (l1 + 1 : Int32) fun v6 =>
        x0_voices_4 F f v6 (l2 + 1) S
      )
      )
    )
def x0_voices (F : Nat) (S : sm_t) : Option (Int32 × sm_t) :=
  x0_voices_4 F F 0 0 S
def xJ_bitCount (F : Nat) (l0 : Int32) (S : sm_t) : Option (Int32 × sm_t) :=
  sm_n (l0 - ((sm_us l0 1) &&& 1431655765) : Int32) fun v1 =>
  sm_n ((v1 &&& 858993459) + ((sm_us v1 2) &&& 858993459) : Int32) fun v2 =>
  sm_n ((v2 + (sm_us v2 4)) &&& 252645135 : Int32) fun v3 =>
  sm_n (v3 + (sm_us v3 8) : Int32) fun v4 =>
  sm_n (v4 + (sm_us v4 16) : Int32) fun v5 =>
  some (v5 &&& 63, S)
def x7_howManyThere_4 (F : Nat) : Nat → Nat → Int32 → Int32 → sm_t → Option (Int32 × sm_t)
  | 0, _, _, _, _ => none
  | f + 1, l0, l1, l2, S => sm_an (.int) l0 fun n2 =>
    if Int32.ofNat n2 ≤ l2 then (
      some (l1, S)
    ) else (
      sm_rd (S.1 l0) n2 l2 fun v3 =>
      if v3 = (-1) then (
        sm_n (l1 + 0 : Int32) fun v4 =>
        x7_howManyThere_4 F f l0 v4 (l2 + 1) S
      ) else (
        sm_n (l1 + 1 : Int32) fun v5 =>
        x7_howManyThere_4 F f l0 v5 (l2 + 1) S
      )
    )
def x7_howManyThere (F : Nat) (l0 : Nat) (S : sm_t) : Option (Int32 × sm_t) :=
  x7_howManyThere_4 F F l0 0 0 S
def x7_count (F : Nat) (l1 : Int32) (S : sm_t) : Option (Int32 × sm_t) :=
  if l1 < 0 ∨ 6 < l1 then (
    some ((-1), S)
  ) else
  if l1 = 0 then (
    sm_n (S.1 19 1) fun v2 =>
    some (v2, S)
  ) else
  if l1 = 1 then (
    sm_cI (x7_storiesThere F S) fun v4 S =>
    some (v4, S)
  ) else
  if l1 = 2 then (
    sm_n (S.1 22 1) fun v6 =>
    some (v6, S)
  ) else
  if l1 = 3 then (
    sm_cI (x0_voices F S) fun v8 S =>
    some (v8, S)
  ) else
  if l1 = 4 then (
    sm_cI (x0_undoneBits F S) fun v10 S =>
    sm_cI (xJ_bitCount F v10 S) fun v11 S =>
    some (v11, S)
  ) else
  if l1 = 5 then (
    sm_cI (x7_howManyThere F 11 S) fun v13 S =>
    some (v13, S)
  ) else
  if l1 = 6 then (
    sm_cI (x7_howManyThere F 17 S) fun v15 S =>
    some (v15, S)
  ) else
  none
def x8_countsOf_44 (F : Nat) (c4 : Int32 → Int32 → Int32 → sm_t → Option (Int32 × sm_t)) (l1 : Int32) (l3 : Int32) (t0 : Int32) (S : sm_t) : Option (Int32 × sm_t) :=
  if l1 = 6 then (
    if 4 ≤ l3 then (
      sm_n (t0 + 0 : Int32) fun v1 =>
      c4 l1 v1 (l3 + 1) S
    ) else (
      sm_rd (S.1 57) 4 l3 fun v2 =>
      if v2 < 0 then (
        sm_n (t0 + 0 : Int32) fun v3 =>
        c4 l1 v3 (l3 + 1) S
      ) else (
        sm_n (t0 + 1 : Int32) fun v4 =>
        c4 l1 v4 (l3 + 1) S
      )
    )
  ) else (
    sm_n (t0 + 0 : Int32) fun v5 =>
    c4 l1 v5 (l3 + 1) S
  )
def x8_countsOf_30 (F : Nat) (c4 : Int32 → Int32 → Int32 → sm_t → Option (Int32 × sm_t)) (l1 : Int32) (l3 : Int32) (t0 : Int32) (S : sm_t) : Option (Int32 × sm_t) :=
  if l1 = 5 then (
    sm_rd (S.1 54) 6 l3 fun v1 =>
    if 0 ≤ v1 then (
      sm_n (t0 + 1 : Int32) fun v2 =>
      c4 l1 v2 (l3 + 1) S
    ) else (
      x8_countsOf_44 F c4 l1 l3 t0 S
    )
  ) else (
    x8_countsOf_44 F c4 l1 l3 t0 S
  )
def x8_countsOf_110 (F : Nat) (c79 : Int32 → Int32 → Int32 → sm_t → Option (Int32 × sm_t)) (l1 : Int32) (l3 : Int32) (t0 : Int32) (S : sm_t) : Option (Int32 × sm_t) :=
  if l1 = 4 then (
    sm_cI (x8_tell F l3 4 S) fun v1 S =>
    if v1 = 1 then (
      sm_n (t0 + 1 : Int32) fun v2 =>
      c79 l1 v2 (l3 + 1) S
    ) else (
      sm_n (t0 + 0 : Int32) fun v3 =>
      c79 l1 v3 (l3 + 1) S
    )
  ) else (
    sm_n (t0 + 0 : Int32) fun v4 =>
    c79 l1 v4 (l3 + 1) S
  )
def x8_countsOf_138 (F : Nat) (l1 : Int32) (l2 : Int32) (S : sm_t) : Option (Int32 × sm_t) :=
  if l1 = 0 then (
    sm_cI (x8_hours F S) fun v1 S =>
    some (v1, S)
  ) else (
    some (l2, S)
  )
def x8_countsOf_79 (F : Nat) : Nat → Int32 → Int32 → Int32 → sm_t → Option (Int32 × sm_t)
  | 0, _, _, _, _ => none
  | f + 1, l1, l2, l3, S => sm_n (S.1 52 17) fun v1 =>
    if v1 ≤ l3 then (
      x8_countsOf_138 F l1 l2 S
    ) else (
      if l1 = 2 then (
        sm_n (l2 + 1 : Int32) fun v2 =>
        x8_countsOf_79 F f l1 v2 (l3 + 1) S
      ) else (
        if l1 = 3 then (
          sm_cI (x8_tell F l3 0 S) fun v3 S =>
          sm_cI (x8_isVoice F v3 S) fun v4 S =>
          if v4 = 0 then (
            x8_countsOf_110 F (x8_countsOf_79 F f) l1 l3 l2 S
          ) else (
            sm_n (l2 + 1 : Int32) fun v5 =>
            x8_countsOf_79 F f l1 v5 (l3 + 1) S
          )
        ) else (
          x8_countsOf_110 F (x8_countsOf_79 F f) l1 l3 l2 S
        )
      )
    )
def x8_countsOf_4 (F : Nat) : Nat → Int32 → Int32 → Int32 → sm_t → Option (Int32 × sm_t)
  | 0, _, _, _, _ => none
  | f + 1, l1, l2, l3, S => if 6 ≤ l3 then (
      x8_countsOf_79 F F l1 l2 0 S
    ) else (
      if l1 = 1 then (
        if 4 ≤ l3 then (
          x8_countsOf_30 F (x8_countsOf_4 F f) l1 l3 l2 S
        ) else (
          sm_rd (S.1 60) 4 l3 fun v1 =>
          if v1 = 0 then (
            x8_countsOf_30 F (x8_countsOf_4 F f) l1 l3 l2 S
          ) else (
            sm_n (l2 + 1 : Int32) fun v2 =>
            x8_countsOf_4 F f l1 v2 (l3 + 1) S
          )
        )
      ) else (
        x8_countsOf_30 F (x8_countsOf_4 F f) l1 l3 l2 S
      )
    )
def x8_countsOf (F : Nat) (l1 : Int32) (S : sm_t) : Option (Int32 × sm_t) :=
  x8_countsOf_4 F F l1 0 0 S
def x8_count (F : Nat) (l1 : Int32) (S : sm_t) : Option (Int32 × sm_t) :=
  sm_cI (x8_in F l1 0 6 S) fun v1 S =>
  if v1 = 0 then (
    some ((-1), S)
  ) else (
    sm_cI (x8_countsOf F l1 S) fun v2 S =>
    some (v2, S)
  )
def x7_finding (F : Nat) (S : sm_t) : Option (Int32 × sm_t) :=
  sm_n (S.1 3 14) fun v1 =>
  some (v1, S)
def x8_finding (F : Nat) (S : sm_t) : Option (Int32 × sm_t) :=
  sm_n (S.1 52 0) fun v1 =>
  some (v1, S)
def x7_findings (F : Nat) (l1 : Int32) (S : sm_t) : Option (Int32 × sm_t) :=
  if l1 < 1 then (
    some ((-1), S)
  ) else (
    if l1 ≤ 5 then (
      sm_rd (S.1 51) 6 l1 fun v1 =>
      some (v1, S)
    ) else (
      some ((-1), S)
    )
  )
def x8_findings (F : Nat) (l1 : Int32) (S : sm_t) : Option (Int32 × sm_t) :=
  sm_cI (x8_in F l1 1 5 S) fun v1 S =>
  if v1 = 0 then (
    some ((-1), S)
  ) else (
    sm_rd (S.1 53) 6 l1 fun v2 =>
    some (v2, S)
  )
def x7_digestInts_6 (F : Nat) : Nat → Nat → Int32 → Int64 → Int32 → sm_t → Option (Int64 × sm_t)
  | 0, _, _, _, _, _ => none
  | f + 1, l2, l3, l4, l6, S => if l3 ≤ l6 then (
      some (l4, S)
    ) else (
      sm_an (.int) l2 fun n2 =>
      sm_rd (S.1 l2) n2 l6 fun v3 =>
      sm_n ((31 * l4) + (v3.toInt64) : Int64) fun v4 =>
      x7_digestInts_6 F f l2 l3 v4 (l6 + 1) S
    )
def x7_digestInts (F : Nat) (l0 : Int64) (l2 : Nat) (l3 : Int32) (S : sm_t) : Option (Int64 × sm_t) :=
  x7_digestInts_6 F F l2 l3 l0 0 S
def x7_digest_124 (F : Nat) (c110 : Int64 → Int32 → sm_t → Option (Int64 × sm_t)) : Nat → Int64 → Int32 → Int32 → sm_t → Option (Int64 × sm_t)
  | 0, _, _, _, _ => none
  | f + 1, l1, l3, l4, S => if 4 < l4 then (
      c110 l1 (l3 + 1) S
    ) else (
      sm_rd (fun i => 24 + i) 12 l3 fun a1 =>
      sm_on 5 a1 (
      sm_cI (x6_number F a1 l4 S) fun v2 S =>
      sm_n ((31 * l1) + (v2.toInt64) : Int64) fun v4 =>
      x7_digest_124 F c110 f v4 l3 (l4 + 1) S
      )
    )
def x7_digest_231 (F : Nat) (c209 : Int64 → Int32 → sm_t → Option (Int64 × sm_t)) : Nat → Int64 → Int32 → Int32 → sm_t → Option (Int64 × sm_t)
  | 0, _, _, _, _ => none
  | f + 1, l1, l3, l4, S => sm_rd (S.1 17) 4 l3 fun v1 =>
    if v1 ≤ l4 then (
      c209 l1 (l3 + 1) S
    ) else (
      sm_rd (fun i => 13 + i) 4 l3 fun a2 =>
      sm_an (.byte) a2 fun n4 =>
      sm_rd (S.1 a2) n4 l4 fun v5 =>
      sm_n ((31 * l1) + (v5.toInt64) : Int64) fun v6 =>
      x7_digest_231 F c209 f v6 l3 (l4 + 1) S
    )
def x7_digest_209 (F : Nat) : Nat → Int64 → Int32 → sm_t → Option (Int64 × sm_t)
  | 0, _, _, _ => none
  | f + 1, l1, l3, S => if 4 ≤ l3 then (
      some (l1, S)
    ) else (
      sm_rd (S.1 17) 4 l3 fun v1 =>
      sm_n ((31 * l1) + (v1.toInt64) : Int64) fun v2 =>
      x7_digest_231 F (x7_digest_209 F f) F v2 l3 0 S
    )
def x7_digest_166 (F : Nat) : Nat → Int64 → Int32 → sm_t → Option (Int64 × sm_t)
  | 0, _, _, _ => none
  | f + 1, l1, l3, S => if 6 ≤ l3 then (
      x7_digest_209 F F l1 0 S
    ) else (
      sm_rd (S.1 11) 6 l3 fun v1 =>
      sm_rd (fun i => 5 + i) 6 l3 fun a2 =>
      sm_rd (S.1 11) 6 l3 fun v3 =>
      sm_cL (x7_digestInts F ((31 * l1) + (v1.toInt64)) a2 v3 S) fun v4 S =>
      x7_digest_166 F f v4 (l3 + 1) S
    )
def x7_digest_110 (F : Nat) : Nat → Int64 → Int32 → sm_t → Option (Int64 × sm_t)
  | 0, _, _, _ => none
  | f + 1, l1, l3, S => sm_n (S.1 22 1) fun v1 =>
    if v1 ≤ l3 then (
      x7_digest_166 F F l1 0 S
    ) else (
      x7_digest_124 F (x7_digest_110 F f) F l1 l3 0 S
    )
def x7_digest_63 (F : Nat) : Nat → Int64 → Int32 → sm_t → Option (Int64 × sm_t)
  | 0, _, _, _ => none
  | f + 1, l1, l3, S => if 3 ≤ l3 then (
      x7_digest_110 F F l1 0 S
    ) else (
      sm_rd (S.1 45) 3 l3 fun v1 =>
      if v1 = 0 then (
        sm_n ((31 * l1) + (-1) : Int64) fun v2 =>
        x7_digest_63 F f v2 (l3 + 1) S
      ) else (
        sm_rd (fun i => 37 + i) 3 l3 fun a3 =>
        sm_cL (x7_digestInts F l1 a3 120 S) fun v4 S =>
        x7_digest_63 F f v4 (l3 + 1) S
      )
    )
def x7_digest_33 (F : Nat) : Nat → Int64 → Int32 → sm_t → Option (Int64 × sm_t)
  | 0, _, _, _ => none
  | f + 1, l1, l3, S => if 15 ≤ l3 then (
      x7_digest_63 F F l1 0 S
    ) else (
      sm_cI (x3_number F l3 S) fun v1 S =>
      sm_n ((31 * l1) + (v1.toInt64) : Int64) fun v2 =>
      x7_digest_33 F f v2 (l3 + 1) S
    )
def x7_digest_6 (F : Nat) : Nat → Int64 → Int32 → sm_t → Option (Int64 × sm_t)
  | 0, _, _, _ => none
  | f + 1, l1, l3, S => if 6 < l3 then (
      x7_digest_33 F F l1 0 S
    ) else (
      sm_cI (x7_count F l3 S) fun v1 S =>
      sm_n ((31 * l1) + (v1.toInt64) : Int64) fun v2 =>
      x7_digest_6 F f v2 (l3 + 1) S
    )
def x7_digest (F : Nat) (S : sm_t) : Option (Int64 × sm_t) :=
  x7_digest_6 F F 17 0 S
def x8_mix (F : Nat) (l1 : Int32) (S : sm_t) : Option (sm_t) :=
  sm_n (S.2.1 52 29) fun v1 =>
  sm_n (sm_wL S 52 29 ((31 * v1) + (l1.toInt64))) fun S =>
  some S
def x8_mixFlight_47 (F : Nat) (c26 : Int32 → sm_t → Option (sm_t)) : Nat → Int32 → Int32 → sm_t → Option (sm_t)
  | 0, _, _, _ => none
  | f + 1, l1, l2, S => if 120 ≤ l2 then (
      c26 (l1 + 1) S
    ) else (
      sm_rd (S.1 60) 4 l1 fun v1 =>
      if v1 = 0 then (
        c26 (l1 + 1) S
      ) else (
        sm_rd (S.1 61) 480 ((120 * l1) + l2) fun v2 =>
        sm_cV (x8_mix F v2 S) fun S =>
        x8_mixFlight_47 F c26 f l1 (l2 + 1) S
      )
    )
def x8_mixFlight_91 (F : Nat) : Nat → Int32 → sm_t → Option (sm_t)
  | 0, _, _ => none
  | f + 1, l1, S => sm_n (S.1 52 17) fun v1 =>
    if 5 * v1 ≤ l1 then (
      some S
    ) else (
      sm_rd (S.1 63) 60 l1 fun v2 =>
      sm_cV (x8_mix F v2 S) fun S =>
      x8_mixFlight_91 F f (l1 + 1) S
    )
def x8_mixFlight_26 (F : Nat) : Nat → Int32 → sm_t → Option (sm_t)
  | 0, _, _ => none
  | f + 1, l1, S => if 4 ≤ l1 then (
      x8_mixFlight_91 F F 0 S
    ) else (
      sm_rd (S.1 60) 4 l1 fun v1 =>
      if v1 = 0 then (
        sm_cV (x8_mix F (-1) S) fun S =>
        x8_mixFlight_47 F (x8_mixFlight_26 F f) F l1 0 S
      ) else (
        x8_mixFlight_47 F (x8_mixFlight_26 F f) F l1 0 S
      )
    )
def x8_mixFlight_2 (F : Nat) : Nat → Int32 → sm_t → Option (sm_t)
  | 0, _, _ => none
  | f + 1, l1, S => if 15 ≤ l1 then (
      x8_mixFlight_26 F F 1 S
    ) else (
      sm_rd (S.1 59) 15 l1 fun v1 =>
      sm_cV (x8_mix F v1 S) fun S =>
      x8_mixFlight_2 F f (l1 + 1) S
    )
def x8_mixFlight (F : Nat) (S : sm_t) : Option (sm_t) :=
  x8_mixFlight_2 F F 0 S
def x8_digest_67 (F : Nat) (c36 : Int32 → sm_t → Option (Int64 × sm_t)) : Nat → Int32 → Int32 → sm_t → Option (Int64 × sm_t)
  | 0, _, _, _ => none
  | f + 1, l1, l2, S => sm_rd (S.1 54) 6 l1 fun v1 =>
    if v1 ≤ l2 then (
      c36 (l1 + 1) S
    ) else (
      sm_cI (x8_rowAt F l1 l2 S) fun v2 S =>
      sm_cV (x8_mix F v2 S) fun S =>
      x8_digest_67 F c36 f l1 (l2 + 1) S
    )
def x8_digest_131 (F : Nat) (c101 : Int32 → sm_t → Option (Int64 × sm_t)) : Nat → Int32 → Int32 → sm_t → Option (Int64 × sm_t)
  | 0, _, _, _ => none
  | f + 1, l1, l2, S => sm_rd (S.1 57) 4 l1 fun v1 =>
    if v1 ≤ l2 then (
      c101 (l1 + 1) S
    ) else (
      sm_rd (S.1 58) 320 ((80 * l1) + l2) fun v2 =>
      sm_cV (x8_mix F v2 S) fun S =>
      x8_digest_131 F c101 f l1 (l2 + 1) S
    )
def x8_digest_101 (F : Nat) : Nat → Int32 → sm_t → Option (Int64 × sm_t)
  | 0, _, _ => none
  | f + 1, l1, S => if 4 ≤ l1 then (
      sm_n (S.2.1 52 29) fun v1 =>
      some (v1, S)
    ) else (
      sm_rd (S.1 57) 4 l1 fun v2 =>
      if 0 ≤ v2 then (
        sm_rd (S.1 57) 4 l1 fun v3 =>
        sm_cV (x8_mix F v3 S) fun S =>
        x8_digest_131 F (x8_digest_101 F f) F l1 0 S
      ) else (
        sm_cV (x8_mix F (-1) S) fun S =>
        x8_digest_131 F (x8_digest_101 F f) F l1 0 S
      )
    )
def x8_digest_36 (F : Nat) : Nat → Int32 → sm_t → Option (Int64 × sm_t)
  | 0, _, _ => none
  | f + 1, l1, S => if 6 ≤ l1 then (
      x8_digest_101 F F 0 S
    ) else (
      sm_rd (S.1 54) 6 l1 fun v1 =>
      if 0 ≤ v1 then (
        sm_rd (S.1 54) 6 l1 fun v2 =>
        sm_cV (x8_mix F v2 S) fun S =>
        x8_digest_67 F (x8_digest_36 F f) F l1 0 S
      ) else (
        sm_cV (x8_mix F (-1) S) fun S =>
        x8_digest_67 F (x8_digest_36 F f) F l1 0 S
      )
    )
def x8_digest_9 (F : Nat) : Nat → Int32 → sm_t → Option (Int64 × sm_t)
  | 0, _, _ => none
  | f + 1, l1, S => if 6 < l1 then (
      sm_cV (x8_mixFlight F S) fun S =>
      x8_digest_36 F F 0 S
    ) else (
      sm_cI (x8_countsOf F l1 S) fun v2 S =>
      sm_cV (x8_mix F v2 S) fun S =>
      x8_digest_9 F f (l1 + 1) S
    )
def x8_digest (F : Nat) (S : sm_t) : Option (Int64 × sm_t) :=
  sm_n (sm_wL S 52 29 17) fun S =>
  x8_digest_9 F F 0 S
