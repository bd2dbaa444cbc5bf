def xL_law_1609 (F N : Nat) (c18 : Int32 → sm_t → Option (Int32 × sm_t)) (l3 : Int32) (S : sm_t) : Option (Int32 × sm_t) :=
  sm_cL (x7_digest F S) fun v1 S =>
  sm_cL (x8_digest F S) fun v2 S =>
  if v1 = v2 then (
    c18 (l3 + 6) S
  ) else (
    some (0, S)
  )
def xL_law_1586 (F N : Nat) (c18 : Int32 → sm_t → Option (Int32 × sm_t)) (l3 : Int32) (S : sm_t) : Option (Int32 × sm_t) :=
  sm_rd (S.1 2) N (l3 + 1) fun v1 =>
  sm_cI (x7_findings F v1 S) fun v2 S =>
  sm_rd (S.1 2) N (l3 + 1) fun v3 =>
  sm_cI (x8_findings F v3 S) fun v4 S =>
  if v2 = v4 then (
    c18 (l3 + 6) S
  ) else (
    some (0, S)
  )
def xL_law_1573 (F N : Nat) (c18 : Int32 → sm_t → Option (Int32 × sm_t)) (l3 : Int32) (S : sm_t) : Option (Int32 × sm_t) :=
  sm_cI (x7_finding F S) fun v1 S =>
  sm_cI (x8_finding F S) fun v2 S =>
  if v1 = v2 then (
    c18 (l3 + 6) S
  ) else (
    some (0, S)
  )
def xL_law_1550 (F N : Nat) (c18 : Int32 → sm_t → Option (Int32 × sm_t)) (l3 : Int32) (S : sm_t) : Option (Int32 × sm_t) :=
  sm_rd (S.1 2) N (l3 + 1) fun v1 =>
  sm_cI (x7_count F v1 S) fun v2 S =>
  sm_rd (S.1 2) N (l3 + 1) fun v3 =>
  sm_cI (x8_count F v3 S) fun v4 S =>
  if v2 = v4 then (
    c18 (l3 + 6) S
  ) else (
    some (0, S)
  )
def xL_law_1536 (F N : Nat) (c18 : Int32 → sm_t → Option (Int32 × sm_t)) (l3 : Int32) (S : sm_t) : Option (Int32 × sm_t) :=
  sm_cL (x7_lower F S) fun v1 S =>
  sm_cL (x8_lower F S) fun v2 S =>
  if v1 = v2 then (
    c18 (l3 + 6) S
  ) else (
    some (0, S)
  )
def xL_law_1522 (F N : Nat) (c18 : Int32 → sm_t → Option (Int32 × sm_t)) (l3 : Int32) (S : sm_t) : Option (Int32 × sm_t) :=
  sm_cL (x7_upper F S) fun v1 S =>
  sm_cL (x8_upper F S) fun v2 S =>
  if v1 = v2 then (
    c18 (l3 + 6) S
  ) else (
    some (0, S)
  )
def xL_law_1509 (F N : Nat) (c18 : Int32 → sm_t → Option (Int32 × sm_t)) (l3 : Int32) (S : sm_t) : Option (Int32 × sm_t) :=
  sm_cI (x7_asked F S) fun v1 S =>
  sm_cI (x8_asked F S) fun v2 S =>
  if v1 = v2 then (
    c18 (l3 + 6) S
  ) else (
    some (0, S)
  )
def xL_law_1486 (F N : Nat) (c18 : Int32 → sm_t → Option (Int32 × sm_t)) (l3 : Int32) (S : sm_t) : Option (Int32 × sm_t) :=
  sm_rd (S.1 2) N (l3 + 1) fun v1 =>
  sm_cI (x7_on F v1 S) fun v2 S =>
  sm_rd (S.1 2) N (l3 + 1) fun v3 =>
  sm_cI (x8_on F v3 S) fun v4 S =>
  if v2 = v4 then (
    c18 (l3 + 6) S
  ) else (
    some (0, S)
  )
def xL_law_1463 (F N : Nat) (c18 : Int32 → sm_t → Option (Int32 × sm_t)) (l3 : Int32) (S : sm_t) : Option (Int32 × sm_t) :=
  sm_rd (S.1 2) N (l3 + 1) fun v1 =>
  sm_cI (x7_image F v1 S) fun v2 S =>
  sm_rd (S.1 2) N (l3 + 1) fun v3 =>
  sm_cI (x8_image F v3 S) fun v4 S =>
  if v2 = v4 then (
    c18 (l3 + 6) S
  ) else (
    some (0, S)
  )
def xL_law_1430 (F N : Nat) (c18 : Int32 → sm_t → Option (Int32 × sm_t)) (l3 : Int32) (S : sm_t) : Option (Int32 × sm_t) :=
  sm_rd (S.1 2) N (l3 + 1) fun v1 =>
  sm_rd (S.1 2) N (l3 + 2) fun v2 =>
  sm_cI (x7_draw F v1 v2 S) fun v3 S =>
  sm_rd (S.1 2) N (l3 + 1) fun v4 =>
  sm_rd (S.1 2) N (l3 + 2) fun v5 =>
  sm_cI (x8_draw F v4 v5 S) fun v6 S =>
  if v3 = v6 then (
    c18 (l3 + 6) S
  ) else (
    some (0, S)
  )
def xL_law_1397 (F N : Nat) (c18 : Int32 → sm_t → Option (Int32 × sm_t)) (l3 : Int32) (S : sm_t) : Option (Int32 × sm_t) :=
  sm_rd (S.1 2) N (l3 + 1) fun v1 =>
  sm_rd (S.1 2) N (l3 + 2) fun v2 =>
  sm_cI (x7_brought F v1 v2 S) fun v3 S =>
  sm_rd (S.1 2) N (l3 + 1) fun v4 =>
  sm_rd (S.1 2) N (l3 + 2) fun v5 =>
  sm_cI (x8_brought F v4 v5 S) fun v6 S =>
  if v3 = v6 then (
    c18 (l3 + 6) S
  ) else (
    some (0, S)
  )
def xL_law_1344 (F N : Nat) (c18 : Int32 → sm_t → Option (Int32 × sm_t)) (l3 : Int32) (S : sm_t) : Option (Int32 × sm_t) :=
  sm_rd (S.1 2) N (l3 + 1) fun v1 =>
  sm_rd (S.1 2) N (l3 + 2) fun v2 =>
  sm_rd (S.1 2) N (l3 + 3) fun v3 =>
  sm_rd (S.1 2) N (l3 + 4) fun v4 =>
  sm_cI (x7_drag F v1 v2 v3 v4 S) fun v5 S =>
  sm_rd (S.1 2) N (l3 + 1) fun v6 =>
  sm_rd (S.1 2) N (l3 + 2) fun v7 =>
  sm_rd (S.1 2) N (l3 + 3) fun v8 =>
  sm_rd (S.1 2) N (l3 + 4) fun v9 =>
  sm_cI (x8_drag F v6 v7 v8 v9 S) fun v10 S =>
  if v5 = v10 then (
    c18 (l3 + 6) S
  ) else (
    some (0, S)
  )
def xL_law_1301 (F N : Nat) (c18 : Int32 → sm_t → Option (Int32 × sm_t)) (l3 : Int32) (S : sm_t) : Option (Int32 × sm_t) :=
  sm_rd (S.1 2) N (l3 + 1) fun v1 =>
  sm_rd (S.1 2) N (l3 + 2) fun v2 =>
  sm_rd (S.1 2) N (l3 + 3) fun v3 =>
  sm_cI (x7_line F v1 v2 v3 S) fun v4 S =>
  sm_rd (S.1 2) N (l3 + 1) fun v5 =>
  sm_rd (S.1 2) N (l3 + 2) fun v6 =>
  sm_rd (S.1 2) N (l3 + 3) fun v7 =>
  sm_cI (x8_line F v5 v6 v7 S) fun v8 S =>
  if v4 = v8 then (
    c18 (l3 + 6) S
  ) else (
    some (0, S)
  )
def xL_law_1268 (F N : Nat) (c18 : Int32 → sm_t → Option (Int32 × sm_t)) (l3 : Int32) (S : sm_t) : Option (Int32 × sm_t) :=
  sm_rd (S.1 2) N (l3 + 1) fun v1 =>
  sm_rd (S.1 2) N (l3 + 2) fun v2 =>
  sm_cI (x7_likelier F v1 v2 S) fun v3 S =>
  sm_rd (S.1 2) N (l3 + 1) fun v4 =>
  sm_rd (S.1 2) N (l3 + 2) fun v5 =>
  sm_cI (x8_likelier F v4 v5 S) fun v6 S =>
  if v3 = v6 then (
    c18 (l3 + 6) S
  ) else (
    some (0, S)
  )
def xL_law_1245 (F N : Nat) (c18 : Int32 → sm_t → Option (Int32 × sm_t)) (l3 : Int32) (S : sm_t) : Option (Int32 × sm_t) :=
  sm_rd (S.1 2) N (l3 + 1) fun v1 =>
  sm_cI (x7_cross F v1 S) fun v2 S =>
  sm_rd (S.1 2) N (l3 + 1) fun v3 =>
  sm_cI (x8_cross F v3 S) fun v4 S =>
  if v2 = v4 then (
    c18 (l3 + 6) S
  ) else (
    some (0, S)
  )
def xL_law_1212 (F N : Nat) (c18 : Int32 → sm_t → Option (Int32 × sm_t)) (l3 : Int32) (S : sm_t) : Option (Int32 × sm_t) :=
  sm_rd (S.1 2) N (l3 + 1) fun v1 =>
  sm_rd (S.1 2) N (l3 + 2) fun v2 =>
  sm_cI (x7_truly F v1 v2 S) fun v3 S =>
  sm_rd (S.1 2) N (l3 + 1) fun v4 =>
  sm_rd (S.1 2) N (l3 + 2) fun v5 =>
  sm_cI (x8_truly F v4 v5 S) fun v6 S =>
  if v3 = v6 then (
    c18 (l3 + 6) S
  ) else (
    some (0, S)
  )
def xL_law_1189 (F N : Nat) (c18 : Int32 → sm_t → Option (Int32 × sm_t)) (l3 : Int32) (S : sm_t) : Option (Int32 × sm_t) :=
  sm_rd (S.1 2) N (l3 + 1) fun v1 =>
  sm_cI (x7_turns F v1 S) fun v2 S =>
  sm_rd (S.1 2) N (l3 + 1) fun v3 =>
  sm_cI (x8_turns F v3 S) fun v4 S =>
  if v2 = v4 then (
    c18 (l3 + 6) S
  ) else (
    some (0, S)
  )
def xL_law_1146 (F N : Nat) (c18 : Int32 → sm_t → Option (Int32 × sm_t)) (l3 : Int32) (S : sm_t) : Option (Int32 × sm_t) :=
  sm_rd (S.1 2) N (l3 + 1) fun v1 =>
  sm_rd (S.1 2) N (l3 + 2) fun v2 =>
  sm_rd (S.1 2) N (l3 + 3) fun v3 =>
  sm_cI (x7_falls F v1 v2 v3 S) fun v4 S =>
  sm_rd (S.1 2) N (l3 + 1) fun v5 =>
  sm_rd (S.1 2) N (l3 + 2) fun v6 =>
  sm_rd (S.1 2) N (l3 + 3) fun v7 =>
  sm_cI (x8_falls F v5 v6 v7 S) fun v8 S =>
  if v4 = v8 then (
    c18 (l3 + 6) S
  ) else (
    some (0, S)
  )
def xL_law_1123 (F N : Nat) (c18 : Int32 → sm_t → Option (Int32 × sm_t)) (l3 : Int32) (S : sm_t) : Option (Int32 × sm_t) :=
  sm_rd (S.1 2) N (l3 + 1) fun v1 =>
  sm_cI (x7_ended F v1 S) fun v2 S =>
  sm_rd (S.1 2) N (l3 + 1) fun v3 =>
  sm_cI (x8_ended F v3 S) fun v4 S =>
  if v2 = v4 then (
    c18 (l3 + 6) S
  ) else (
    some (0, S)
  )
def xL_law_1090 (F N : Nat) (c18 : Int32 → sm_t → Option (Int32 × sm_t)) (l3 : Int32) (S : sm_t) : Option (Int32 × sm_t) :=
  sm_rd (S.1 2) N (l3 + 1) fun v1 =>
  sm_rd (S.1 2) N (l3 + 2) fun v2 =>
  sm_cI (x7_hour F v1 v2 S) fun v3 S =>
  sm_rd (S.1 2) N (l3 + 1) fun v4 =>
  sm_rd (S.1 2) N (l3 + 2) fun v5 =>
  sm_cI (x8_hour F v4 v5 S) fun v6 S =>
  if v3 = v6 then (
    c18 (l3 + 6) S
  ) else (
    some (0, S)
  )
def xL_law_1047 (F N : Nat) (c18 : Int32 → sm_t → Option (Int32 × sm_t)) (l3 : Int32) (S : sm_t) : Option (Int32 × sm_t) :=
  sm_rd (S.1 2) N (l3 + 1) fun v1 =>
  sm_rd (S.1 2) N (l3 + 2) fun v2 =>
  sm_rd (S.1 2) N (l3 + 3) fun v3 =>
  sm_cI (x7_sure F v1 v2 v3 S) fun v4 S =>
  sm_rd (S.1 2) N (l3 + 1) fun v5 =>
  sm_rd (S.1 2) N (l3 + 2) fun v6 =>
  sm_rd (S.1 2) N (l3 + 3) fun v7 =>
  sm_cI (x8_sure F v5 v6 v7 S) fun v8 S =>
  if v4 = v8 then (
    c18 (l3 + 6) S
  ) else (
    some (0, S)
  )
def xL_law_1024 (F N : Nat) (c18 : Int32 → sm_t → Option (Int32 × sm_t)) (l3 : Int32) (S : sm_t) : Option (Int32 × sm_t) :=
  sm_rd (S.1 2) N (l3 + 1) fun v1 =>
  sm_cI (x7_most F v1 S) fun v2 S =>
  sm_rd (S.1 2) N (l3 + 1) fun v3 =>
  sm_cI (x8_most F v3 S) fun v4 S =>
  if v2 = v4 then (
    c18 (l3 + 6) S
  ) else (
    some (0, S)
  )
def xL_law_991 (F N : Nat) (c18 : Int32 → sm_t → Option (Int32 × sm_t)) (l3 : Int32) (S : sm_t) : Option (Int32 × sm_t) :=
  sm_rd (S.1 2) N (l3 + 1) fun v1 =>
  sm_rd (S.1 2) N (l3 + 2) fun v2 =>
  sm_cI (x7_where F v1 v2 S) fun v3 S =>
  sm_rd (S.1 2) N (l3 + 1) fun v4 =>
  sm_rd (S.1 2) N (l3 + 2) fun v5 =>
  sm_cI (x8_where F v4 v5 S) fun v6 S =>
  if v3 = v6 then (
    c18 (l3 + 6) S
  ) else (
    some (0, S)
  )
def xL_law_968 (F N : Nat) (c18 : Int32 → sm_t → Option (Int32 × sm_t)) (l3 : Int32) (S : sm_t) : Option (Int32 × sm_t) :=
  sm_rd (S.1 2) N (l3 + 1) fun v1 =>
  sm_cI (x7_near F v1 S) fun v2 S =>
  sm_rd (S.1 2) N (l3 + 1) fun v3 =>
  sm_cI (x8_near F v3 S) fun v4 S =>
  if v2 = v4 then (
    c18 (l3 + 6) S
  ) else (
    some (0, S)
  )
def xL_law_935 (F N : Nat) (c18 : Int32 → sm_t → Option (Int32 × sm_t)) (l3 : Int32) (S : sm_t) : Option (Int32 × sm_t) :=
  sm_rd (S.1 2) N (l3 + 1) fun v1 =>
  sm_rd (S.1 2) N (l3 + 2) fun v2 =>
  sm_cI (x7_weighs F v1 v2 S) fun v3 S =>
  sm_rd (S.1 2) N (l3 + 1) fun v4 =>
  sm_rd (S.1 2) N (l3 + 2) fun v5 =>
  sm_cI (x8_weighs F v4 v5 S) fun v6 S =>
  if v3 = v6 then (
    c18 (l3 + 6) S
  ) else (
    some (0, S)
  )
def xL_law_902 (F N : Nat) (c18 : Int32 → sm_t → Option (Int32 × sm_t)) (l3 : Int32) (S : sm_t) : Option (Int32 × sm_t) :=
  sm_rd (S.1 2) N (l3 + 1) fun v1 =>
  sm_rd (S.1 2) N (l3 + 2) fun v2 =>
  sm_cI (x7_mark F v1 v2 S) fun v3 S =>
  sm_rd (S.1 2) N (l3 + 1) fun v4 =>
  sm_rd (S.1 2) N (l3 + 2) fun v5 =>
  sm_cI (x8_mark F v4 v5 S) fun v6 S =>
  if v3 = v6 then (
    c18 (l3 + 6) S
  ) else (
    some (0, S)
  )
def xL_law_869 (F N : Nat) (c18 : Int32 → sm_t → Option (Int32 × sm_t)) (l3 : Int32) (S : sm_t) : Option (Int32 × sm_t) :=
  sm_rd (S.1 2) N (l3 + 1) fun v1 =>
  sm_rd (S.1 2) N (l3 + 2) fun v2 =>
  sm_cI (x7_told F v1 v2 S) fun v3 S =>
  sm_rd (S.1 2) N (l3 + 1) fun v4 =>
  sm_rd (S.1 2) N (l3 + 2) fun v5 =>
  sm_cI (x8_told F v4 v5 S) fun v6 S =>
  if v3 = v6 then (
    c18 (l3 + 6) S
  ) else (
    some (0, S)
  )
def xL_law_836 (F N : Nat) (c18 : Int32 → sm_t → Option (Int32 × sm_t)) (l3 : Int32) (S : sm_t) : Option (Int32 × sm_t) :=
  sm_rd (S.1 2) N (l3 + 1) fun v1 =>
  sm_rd (S.1 2) N (l3 + 2) fun v2 =>
  sm_cI (x7_undo F v1 v2 S) fun v3 S =>
  sm_rd (S.1 2) N (l3 + 1) fun v4 =>
  sm_rd (S.1 2) N (l3 + 2) fun v5 =>
  sm_cI (x8_undo F v4 v5 S) fun v6 S =>
  if v3 = v6 then (
    c18 (l3 + 6) S
  ) else (
    some (0, S)
  )
def xL_law_813 (F N : Nat) (c18 : Int32 → sm_t → Option (Int32 × sm_t)) (l3 : Int32) (S : sm_t) : Option (Int32 × sm_t) :=
  sm_rd (S.1 2) N (l3 + 1) fun v1 =>
  sm_cI (x7_signs F v1 S) fun v2 S =>
  sm_rd (S.1 2) N (l3 + 1) fun v3 =>
  sm_cI (x8_signs F v3 S) fun v4 S =>
  if v2 = v4 then (
    c18 (l3 + 6) S
  ) else (
    some (0, S)
  )
def xL_law_760 (F N : Nat) (c18 : Int32 → sm_t → Option (Int32 × sm_t)) (l3 : Int32) (S : sm_t) : Option (Int32 × sm_t) :=
  sm_rd (S.1 2) N (l3 + 1) fun v1 =>
  sm_rd (S.1 2) N (l3 + 2) fun v2 =>
  sm_rd (S.1 2) N (l3 + 3) fun v3 =>
  sm_rd (S.1 2) N (l3 + 4) fun v4 =>
  sm_cI (x7_sign F v1 v2 v3 v4 S) fun v5 S =>
  sm_rd (S.1 2) N (l3 + 1) fun v6 =>
  sm_rd (S.1 2) N (l3 + 2) fun v7 =>
  sm_rd (S.1 2) N (l3 + 3) fun v8 =>
  sm_rd (S.1 2) N (l3 + 4) fun v9 =>
  sm_cI (x8_sign F v6 v7 v8 v9 S) fun v10 S =>
  if v5 = v10 then (
    c18 (l3 + 6) S
  ) else (
    some (0, S)
  )
def xL_law_727 (F N : Nat) (c18 : Int32 → sm_t → Option (Int32 × sm_t)) (l3 : Int32) (S : sm_t) : Option (Int32 × sm_t) :=
  sm_rd (S.1 2) N (l3 + 1) fun v1 =>
  sm_rd (S.1 2) N (l3 + 2) fun v2 =>
  sm_cI (x7_far F v1 v2 S) fun v3 S =>
  sm_rd (S.1 2) N (l3 + 1) fun v4 =>
  sm_rd (S.1 2) N (l3 + 2) fun v5 =>
  sm_cI (x8_far F v4 v5 S) fun v6 S =>
  if v3 = v6 then (
    c18 (l3 + 6) S
  ) else (
    some (0, S)
  )
def xL_law_694 (F N : Nat) (c18 : Int32 → sm_t → Option (Int32 × sm_t)) (l3 : Int32) (S : sm_t) : Option (Int32 × sm_t) :=
  sm_rd (S.1 2) N (l3 + 1) fun v1 =>
  sm_rd (S.1 2) N (l3 + 2) fun v2 =>
  sm_cI (x7_lies F v1 v2 S) fun v3 S =>
  sm_rd (S.1 2) N (l3 + 1) fun v4 =>
  sm_rd (S.1 2) N (l3 + 2) fun v5 =>
  sm_cI (x8_lies F v4 v5 S) fun v6 S =>
  if v3 = v6 then (
    c18 (l3 + 6) S
  ) else (
    some (0, S)
  )
def xL_law_661 (F N : Nat) (c18 : Int32 → sm_t → Option (Int32 × sm_t)) (l3 : Int32) (S : sm_t) : Option (Int32 × sm_t) :=
  sm_rd (S.1 2) N (l3 + 1) fun v1 =>
  sm_rd (S.1 2) N (l3 + 2) fun v2 =>
  sm_cI (x7_story F v1 v2 S) fun v3 S =>
  sm_rd (S.1 2) N (l3 + 1) fun v4 =>
  sm_rd (S.1 2) N (l3 + 2) fun v5 =>
  sm_cI (x8_story F v4 v5 S) fun v6 S =>
  if v3 = v6 then (
    c18 (l3 + 6) S
  ) else (
    some (0, S)
  )
def xL_law_638 (F N : Nat) (c18 : Int32 → sm_t → Option (Int32 × sm_t)) (l3 : Int32) (S : sm_t) : Option (Int32 × sm_t) :=
  sm_rd (S.1 2) N (l3 + 1) fun v1 =>
  sm_cI (x7_fault F v1 S) fun v2 S =>
  sm_rd (S.1 2) N (l3 + 1) fun v3 =>
  sm_cI (x8_fault F v3 S) fun v4 S =>
  if v2 = v4 then (
    c18 (l3 + 6) S
  ) else (
    some (0, S)
  )
def xL_law_615 (F N : Nat) (c18 : Int32 → sm_t → Option (Int32 × sm_t)) (l3 : Int32) (S : sm_t) : Option (Int32 × sm_t) :=
  sm_rd (S.1 2) N (l3 + 1) fun v1 =>
  sm_cI (x7_plan F v1 S) fun v2 S =>
  sm_rd (S.1 2) N (l3 + 1) fun v3 =>
  sm_cI (x8_plan F v3 S) fun v4 S =>
  if v2 = v4 then (
    c18 (l3 + 6) S
  ) else (
    some (0, S)
  )
def xL_law_582 (F N : Nat) (c18 : Int32 → sm_t → Option (Int32 × sm_t)) (l3 : Int32) (S : sm_t) : Option (Int32 × sm_t) :=
  sm_rd (S.1 2) N (l3 + 1) fun v1 =>
  sm_rd (S.1 2) N (l3 + 2) fun v2 =>
  sm_cI (x7_course F v1 v2 S) fun v3 S =>
  sm_rd (S.1 2) N (l3 + 1) fun v4 =>
  sm_rd (S.1 2) N (l3 + 2) fun v5 =>
  sm_cI (x8_course F v4 v5 S) fun v6 S =>
  if v3 = v6 then (
    c18 (l3 + 6) S
  ) else (
    some (0, S)
  )
def xL_law_559 (F N : Nat) (c18 : Int32 → sm_t → Option (Int32 × sm_t)) (l3 : Int32) (S : sm_t) : Option (Int32 × sm_t) :=
  sm_rd (S.1 2) N (l3 + 1) fun v1 =>
  sm_cI (x7_ends F v1 S) fun v2 S =>
  sm_rd (S.1 2) N (l3 + 1) fun v3 =>
  sm_cI (x8_ends F v3 S) fun v4 S =>
  if v2 = v4 then (
    c18 (l3 + 6) S
  ) else (
    some (0, S)
  )
def xL_law_526 (F N : Nat) (c18 : Int32 → sm_t → Option (Int32 × sm_t)) (l3 : Int32) (S : sm_t) : Option (Int32 × sm_t) :=
  sm_rd (S.1 2) N (l3 + 1) fun v1 =>
  sm_rd (S.1 2) N (l3 + 2) fun v2 =>
  sm_cI (x7_flight F v1 v2 S) fun v3 S =>
  sm_rd (S.1 2) N (l3 + 1) fun v4 =>
  sm_rd (S.1 2) N (l3 + 2) fun v5 =>
  sm_cI (x8_flight F v4 v5 S) fun v6 S =>
  if v3 = v6 then (
    c18 (l3 + 6) S
  ) else (
    some (0, S)
  )
def xL_law_483 (F N : Nat) (c18 : Int32 → sm_t → Option (Int32 × sm_t)) (l3 : Int32) (S : sm_t) : Option (Int32 × sm_t) :=
  sm_rd (S.1 2) N (l3 + 1) fun v1 =>
  sm_rd (S.1 2) N (l3 + 2) fun v2 =>
  sm_rd (S.1 2) N (l3 + 3) fun v3 =>
  sm_cI (x7_put F v1 v2 v3 S) fun v4 S =>
  sm_rd (S.1 2) N (l3 + 1) fun v5 =>
  sm_rd (S.1 2) N (l3 + 2) fun v6 =>
  sm_rd (S.1 2) N (l3 + 3) fun v7 =>
  sm_cI (x8_put F v5 v6 v7 S) fun v8 S =>
  if v4 = v8 then (
    c18 (l3 + 6) S
  ) else (
    some (0, S)
  )
def xL_law_450 (F N : Nat) (c18 : Int32 → sm_t → Option (Int32 × sm_t)) (l3 : Int32) (S : sm_t) : Option (Int32 × sm_t) :=
  sm_rd (S.1 2) N (l3 + 1) fun v1 =>
  sm_rd (S.1 2) N (l3 + 2) fun v2 =>
  sm_cI (x7_text F v1 v2 S) fun v3 S =>
  sm_rd (S.1 2) N (l3 + 1) fun v4 =>
  sm_rd (S.1 2) N (l3 + 2) fun v5 =>
  sm_cI (x8_text F v4 v5 S) fun v6 S =>
  if v3 = v6 then (
    c18 (l3 + 6) S
  ) else (
    some (0, S)
  )
def xL_law_427 (F N : Nat) (c18 : Int32 → sm_t → Option (Int32 × sm_t)) (l3 : Int32) (S : sm_t) : Option (Int32 × sm_t) :=
  sm_rd (S.1 2) N (l3 + 1) fun v1 =>
  sm_cI (x7_mean F v1 S) fun v2 S =>
  sm_rd (S.1 2) N (l3 + 1) fun v3 =>
  sm_cI (x8_mean F v3 S) fun v4 S =>
  if v2 = v4 then (
    c18 (l3 + 6) S
  ) else (
    some (0, S)
  )
def xL_law_364 (F N : Nat) (c18 : Int32 → sm_t → Option (Int32 × sm_t)) (l3 : Int32) (S : sm_t) : Option (Int32 × sm_t) :=
  sm_rd (S.1 2) N (l3 + 1) fun v1 =>
  sm_rd (S.1 2) N (l3 + 2) fun v2 =>
  sm_rd (S.1 2) N (l3 + 3) fun v3 =>
  sm_rd (S.1 2) N (l3 + 4) fun v4 =>
  sm_rd (S.1 2) N (l3 + 5) fun v5 =>
  sm_cI (x7_copy F v1 v2 v3 v4 v5 S) fun v6 S =>
  sm_rd (S.1 2) N (l3 + 1) fun v7 =>
  sm_rd (S.1 2) N (l3 + 2) fun v8 =>
  sm_rd (S.1 2) N (l3 + 3) fun v9 =>
  sm_rd (S.1 2) N (l3 + 4) fun v10 =>
  sm_rd (S.1 2) N (l3 + 5) fun v11 =>
  sm_cI (x8_copy F v7 v8 v9 v10 v11 S) fun v12 S =>
  if v6 = v12 then (
    c18 (l3 + 6) S
  ) else (
    some (0, S)
  )
def xL_law_341 (F N : Nat) (c18 : Int32 → sm_t → Option (Int32 × sm_t)) (l3 : Int32) (S : sm_t) : Option (Int32 × sm_t) :=
  sm_rd (S.1 2) N (l3 + 1) fun v1 =>
  sm_cI (x7_tear F v1 S) fun v2 S =>
  sm_rd (S.1 2) N (l3 + 1) fun v3 =>
  sm_cI (x8_tear F v3 S) fun v4 S =>
  if v2 = v4 then (
    c18 (l3 + 6) S
  ) else (
    some (0, S)
  )
def xL_law_308 (F N : Nat) (c18 : Int32 → sm_t → Option (Int32 × sm_t)) (l3 : Int32) (S : sm_t) : Option (Int32 × sm_t) :=
  sm_rd (S.1 2) N (l3 + 1) fun v1 =>
  sm_rd (S.1 2) N (l3 + 2) fun v2 =>
  sm_cI (x7_at F v1 v2 S) fun v3 S =>
  sm_rd (S.1 2) N (l3 + 1) fun v4 =>
  sm_rd (S.1 2) N (l3 + 2) fun v5 =>
  sm_cI (x8_at F v4 v5 S) fun v6 S =>
  if v3 = v6 then (
    c18 (l3 + 6) S
  ) else (
    some (0, S)
  )
def xL_law_265 (F N : Nat) (c18 : Int32 → sm_t → Option (Int32 × sm_t)) (l3 : Int32) (S : sm_t) : Option (Int32 × sm_t) :=
  sm_rd (S.1 2) N (l3 + 1) fun v1 =>
  sm_rd (S.1 2) N (l3 + 2) fun v2 =>
  sm_rd (S.1 2) N (l3 + 3) fun v3 =>
  sm_cI (x7_lay F v1 v2 v3 S) fun v4 S =>
  sm_rd (S.1 2) N (l3 + 1) fun v5 =>
  sm_rd (S.1 2) N (l3 + 2) fun v6 =>
  sm_rd (S.1 2) N (l3 + 3) fun v7 =>
  sm_cI (x8_lay F v5 v6 v7 S) fun v8 S =>
  if v4 = v8 then (
    c18 (l3 + 6) S
  ) else (
    some (0, S)
  )
def xL_law_232 (F N : Nat) (c18 : Int32 → sm_t → Option (Int32 × sm_t)) (l3 : Int32) (S : sm_t) : Option (Int32 × sm_t) :=
  sm_rd (S.1 2) N (l3 + 1) fun v1 =>
  sm_rd (S.1 2) N (l3 + 2) fun v2 =>
  sm_cI (x7_row F v1 v2 S) fun v3 S =>
  sm_rd (S.1 2) N (l3 + 1) fun v4 =>
  sm_rd (S.1 2) N (l3 + 2) fun v5 =>
  sm_cI (x8_row F v4 v5 S) fun v6 S =>
  if v3 = v6 then (
    c18 (l3 + 6) S
  ) else (
    some (0, S)
  )
def xL_law_18 (F N : Nat) : Nat → Int32 → sm_t → Option (Int32 × sm_t)
  | 0, _, _ => none
  | f + 1, l3, S => if (Int32.ofNat N) - 6 < l3 then (
      some (1, S)
    ) else (
      sm_rd (S.1 2) N l3 fun v1 =>
      sm_n (v1 &&& 63 : Int32) fun v2 =>
      if v2 < 0 ∨ 45 < v2 then (
        xL_law_18 F N f (l3 + 6) S
      ) else
      if v2 = 0 then (
        xL_law_232 F N (xL_law_18 F N f) l3 S
      ) else
      if v2 = 1 then (
        xL_law_265 F N (xL_law_18 F N f) l3 S
      ) else
      if v2 = 2 then (
        xL_law_308 F N (xL_law_18 F N f) l3 S
      ) else
      if v2 = 3 then (
        xL_law_341 F N (xL_law_18 F N f) l3 S
      ) else
      if v2 = 4 then (
        xL_law_364 F N (xL_law_18 F N f) l3 S
      ) else
      if v2 = 5 then (
        xL_law_427 F N (xL_law_18 F N f) l3 S
      ) else
      if v2 = 6 then (
        xL_law_450 F N (xL_law_18 F N f) l3 S
      ) else
      if v2 = 7 then (
        xL_law_483 F N (xL_law_18 F N f) l3 S
      ) else
      if v2 = 8 then (
        xL_law_526 F N (xL_law_18 F N f) l3 S
      ) else
      if v2 = 9 then (
        xL_law_559 F N (xL_law_18 F N f) l3 S
      ) else
      if v2 = 10 then (
        xL_law_582 F N (xL_law_18 F N f) l3 S
      ) else
      if v2 = 11 then (
        xL_law_615 F N (xL_law_18 F N f) l3 S
      ) else
      if v2 = 12 then (
        xL_law_638 F N (xL_law_18 F N f) l3 S
      ) else
      if v2 = 13 then (
        xL_law_661 F N (xL_law_18 F N f) l3 S
      ) else
      if v2 = 14 then (
        xL_law_694 F N (xL_law_18 F N f) l3 S
      ) else
      if v2 = 15 then (
        xL_law_727 F N (xL_law_18 F N f) l3 S
      ) else
      if v2 = 16 then (
        xL_law_760 F N (xL_law_18 F N f) l3 S
      ) else
      if v2 = 17 then (
        xL_law_813 F N (xL_law_18 F N f) l3 S
      ) else
      if v2 = 18 then (
        xL_law_836 F N (xL_law_18 F N f) l3 S
      ) else
      if v2 = 19 then (
        xL_law_869 F N (xL_law_18 F N f) l3 S
      ) else
      if v2 = 20 then (
        xL_law_902 F N (xL_law_18 F N f) l3 S
      ) else
      if v2 = 21 then (
        xL_law_935 F N (xL_law_18 F N f) l3 S
      ) else
      if v2 = 22 then (
        xL_law_968 F N (xL_law_18 F N f) l3 S
      ) else
      if v2 = 23 then (
        xL_law_991 F N (xL_law_18 F N f) l3 S
      ) else
      if v2 = 24 then (
        xL_law_1024 F N (xL_law_18 F N f) l3 S
      ) else
      if v2 = 25 then (
        xL_law_1047 F N (xL_law_18 F N f) l3 S
      ) else
      if v2 = 26 then (
        xL_law_1090 F N (xL_law_18 F N f) l3 S
      ) else
      if v2 = 27 then (
        xL_law_1123 F N (xL_law_18 F N f) l3 S
      ) else
      if v2 = 28 then (
        xL_law_1146 F N (xL_law_18 F N f) l3 S
      ) else
      if v2 = 29 then (
        xL_law_1189 F N (xL_law_18 F N f) l3 S
      ) else
      if v2 = 30 then (
        xL_law_1212 F N (xL_law_18 F N f) l3 S
      ) else
      if v2 = 31 then (
        xL_law_1245 F N (xL_law_18 F N f) l3 S
      ) else
      if v2 = 32 then (
        xL_law_1268 F N (xL_law_18 F N f) l3 S
      ) else
      if v2 = 33 then (
        xL_law_1301 F N (xL_law_18 F N f) l3 S
      ) else
      if v2 = 34 then (
        xL_law_1344 F N (xL_law_18 F N f) l3 S
      ) else
      if v2 = 35 then (
        xL_law_1397 F N (xL_law_18 F N f) l3 S
      ) else
      if v2 = 36 then (
        xL_law_1430 F N (xL_law_18 F N f) l3 S
      ) else
      if v2 = 37 then (
        xL_law_1463 F N (xL_law_18 F N f) l3 S
      ) else
      if v2 = 38 then (
        xL_law_1486 F N (xL_law_18 F N f) l3 S
      ) else
      if v2 = 39 then (
        xL_law_1509 F N (xL_law_18 F N f) l3 S
      ) else
      if v2 = 40 then (
        xL_law_1522 F N (xL_law_18 F N f) l3 S
      ) else
      if v2 = 41 then (
        xL_law_1536 F N (xL_law_18 F N f) l3 S
      ) else
      if v2 = 42 then (
        xL_law_1550 F N (xL_law_18 F N f) l3 S
      ) else
      if v2 = 43 then (
        xL_law_1573 F N (xL_law_18 F N f) l3 S
      ) else
      if v2 = 44 then (
        xL_law_1586 F N (xL_law_18 F N f) l3 S
      ) else
      if v2 = 45 then (
        xL_law_1609 F N (xL_law_18 F N f) l3 S
      ) else
      none
    )
