def f_Main_within (v0 v1 v2 : Int) (D : Mm) : Option (Int) :=
  if zI v0 < zI v1 then
    some 0
  else
    if zI v2 < zI v0 then
      some 0
    else
      some 1
def f_Text_put (v1 : Int) (D : Mm) : Option (Int × Mm) :=
  if zI 500 ≤ zI (D 2 1) then
    some (0, D)
  else
    if 0 ≤ D 2 1 ∧ D 2 1 < 500 then (zst D 3 (D 2 1) v1 fun D1 =>
    zst D1 2 1 ((D1 2 1) + 1) fun D2 =>
    some (0, D2)) else none
def f_Main_write_35 (v2 : Int)  : Nat → Int → Mm → Option (Int × Mm)
  | 0, _, _ => none
  | n + 1, v4, D =>
    if zI v4 < 0 then
      some (D 2 1, D)
    else
      zb (f_Text_put (jand (jlushr v2 (8 * v4)) 255) D) fun _ D2 =>
      f_Main_write_35 v2 n (v4 + (-1)) D2
def f_Main_write (v1 v2 : Int) (D : Mm) : Option (Int × Mm) :=
  (f_Main_within v1 1 8 D).bind fun r1 =>
  if zI r1 = 0 then
    some ((-1), D)
  else
    if zI ((D 2 1) + v1) ≤ zI 500 then
      f_Main_write_35 v2 zF (v1 - 1) D
    else
      some ((-3), D)
def f_Text_clear (D : Mm) : Option (Int × Mm) :=
  zst D 2 1 0 fun D1 =>
  some (0, D1)
def f_Main_wipe (D : Mm) : Option (Int × Mm) :=
  zb (f_Text_clear D) fun _ D2 =>
  some (D 2 1, D2)
def f_Arrays_fill_5 (v0 n0 v1 v3 : Int)  : Nat → Int → Mm → Option (Int × Mm)
  | 0, _, _ => none
  | n + 1, v2, D =>
    if zI v3 ≤ zI v2 then
      some (0, D)
    else
      if 0 ≤ v2 ∧ v2 < n0 then (zst D v0 v2 v1 fun D1 =>
      f_Arrays_fill_5 v0 n0 v1 v3 n (v2 + 1) D1) else none
def f_Arrays_fill (v0 n0 v1 : Int) (D : Mm) : Option (Int × Mm) :=
  f_Arrays_fill_5 v0 n0 v1 n0 zF 0 D
def f_Quern_clear_64 (v0 : Int)  : Nat → Int → Mm → Option (Int × Mm)
  | 0, _, _ => none
  | n + 1, v1, D =>
    if zI 6 ≤ zI v1 then
      zb (f_Arrays_fill (v0 + 28) 4 0 D) fun _ D2 =>
      zb (f_Arrays_fill (v0 + 29) 4 0 D2) fun _ D4 =>
      some (0, D4)
    else
      if 0 ≤ v1 ∧ v1 < 6 then
      zb (f_Arrays_fill (v0 + 31 + v1) 6 0 D) fun _ D6 =>
      f_Quern_clear_64 v0 n (v1 + 1) D6 else none
def f_Quern_clear_41 (v0 : Int)  : Nat → Int → Mm → Option (Int × Mm)
  | 0, _, _ => none
  | n + 1, v1, D =>
    if zI 4 ≤ zI v1 then
      f_Quern_clear_64 v0 zF 0 D
    else
      if 0 ≤ v1 ∧ v1 < 4 then
      zb (f_Arrays_fill (v0 + 24 + v1) 6 0 D) fun _ D2 =>
      f_Quern_clear_41 v0 n (v1 + 1) D2 else none
def f_Quern_clear_17 (v0 : Int)  : Nat → Int → Mm → Option (Int × Mm)
  | 0, _, _ => none
  | n + 1, v1, D =>
    if zI 10 ≤ zI v1 then
      f_Quern_clear_41 v0 zF 0 D
    else
      if 0 ≤ v1 ∧ v1 < 10 then
      zb (f_Arrays_fill (v0 + 13 + v1) 6 0 D) fun _ D2 =>
      f_Quern_clear_17 v0 n (v1 + 1) D2 else none
def f_Quern_clear (v0 : Int) (D : Mm) : Option (Int × Mm) :=
  zst D v0 0 0 fun D1 =>
  zst D1 v0 1 0 fun D2 =>
  zst D2 v0 11 0 fun D3 =>
  f_Quern_clear_17 v0 zF 0 D3
def f_Text_at (v1 : Int) (D : Mm) : Option (Int) :=
  if zI v1 < 0 then
    some (-1)
  else
    if zI (D 2 1) ≤ zI v1 then
      some (-1)
    else
      if 0 ≤ v1 ∧ v1 < 500 then
      some (D 3 v1) else none
def f_Scribe_numbersOf (v0 : Int) (D : Mm) : Option (Int) :=
  if zI v0 = zI 98 then
    some 3
  else
  if zI v0 = zI 102 then
    some 4
  else
  if zI v0 = zI 103 then
    some 4
  else
  if zI v0 = zI 116 then
    some 3
  else
  if zI v0 = zI 117 then
    some 3
  else
  if zI v0 = zI 119 then
    some 2
  else
  if zI v0 = zI 120 then
    some 3
  else
    some 0
def f_Text_isFigure (v1 : Int) (D : Mm) : Option (Int) :=
  (f_Text_at v1 D).bind fun r1 =>
  if zI r1 < zI 48 then
    some 0
  else
    (f_Text_at v1 D).bind fun r2 =>
    if zI 57 < zI r2 then
      some 0
    else
      some 1
def f_Scribe_figuresAt_2 (v1 : Int)  (D : Mm) : Nat → Int → Option (Int)
  | 0, _ => none
  | n + 1, v2 =>
    if zI 3 ≤ zI v2 then
      some v2
    else
      (f_Text_isFigure (v1 + v2) D).bind fun r1 =>
      if zI r1 = 0 then
        some v2
      else
        f_Scribe_figuresAt_2 v1 D n (v2 + 1)
def f_Scribe_figuresAt (v1 : Int) (D : Mm) : Option (Int) :=
  f_Scribe_figuresAt_2 v1 D zF 0
def f_Scribe_numberAt_5 (v1 v2 : Int)  (D : Mm) : Nat → Int → Int → Option (Int)
  | 0, _, _ => none
  | n + 1, v3, v4 =>
    if zI v2 ≤ zI v4 then
      some v3
    else
      (f_Text_at (v1 + v4) D).bind fun r1 =>
      f_Scribe_numberAt_5 v1 v2 D n (((v3 * 10) + r1) - 48) (v4 + 1)
def f_Scribe_numberAt (v1 v2 : Int) (D : Mm) : Option (Int) :=
  f_Scribe_numberAt_5 v1 v2 D zF 0 0
def f_Scribe_placeBehindItem_87 (v3 v4 v5 s0 s1 : Int) (K15 : Int → Int → Mm → Option (Int × Mm)) (D : Mm) : Option (Int × Mm) :=
  if zI s1 = zI s0 then
    K15 (v4 + 1) (v5 + 1) D
  else
    some ((-1), D)
def f_Scribe_placeBehindItem_23 (v3 : Int)  : Nat → Int → Int → Mm → Option (Int × Mm)
  | 0, _, _, _ => none
  | n + 1, v4, v5, D =>
    if zI v3 ≤ zI v5 then
      some (v4, D)
    else
      (f_Scribe_figuresAt v4 D).bind fun r1 =>
      if zI r1 = 0 then
        some ((-1), D)
      else
        (f_Scribe_numberAt v4 r1 D).bind fun r2 =>
        if 0 ≤ v5 ∧ v5 < 4 then (zst D 5 v5 r2 fun D3 =>
        (f_Text_at (v4 + r1) D3).bind fun r4 =>
        if zI v5 = zI (v3 - 1) then
          f_Scribe_placeBehindItem_87 v3 (v4 + r1) v5 59 r4 (f_Scribe_placeBehindItem_23 v3 n) D3
        else
          f_Scribe_placeBehindItem_87 v3 (v4 + r1) v5 44 r4 (f_Scribe_placeBehindItem_23 v3 n) D3) else none
def f_Scribe_placeBehindItem (v2 : Int) (D : Mm) : Option (Int × Mm) :=
  (f_Text_at v2 D).bind fun r1 =>
  (f_Scribe_numbersOf r1 D).bind fun r2 =>
  if zI r2 = 0 then
    some ((-1), D)
  else
    f_Scribe_placeBehindItem_23 r2 zF (v2 + 1) 0 D
def f_Quern_takeSort (v0 v1 : Int) (D : Mm) : Option (Int × Mm) :=
  if zI 6 ≤ zI (D v0 0) then
    some (0, D)
  else
    if zI ((((D v1 0) + (D v1 1)) + (D v1 2)) + (D v1 3)) = zI 100 then
      if 0 ≤ D v0 0 ∧ D v0 0 < 6 then
      zcp D v1 0 (v0 + 2 + (D v0 0)) 0 4 fun D1 =>
      zst D1 v0 0 ((D1 v0 0) + 1) fun D2 =>
      some (1, D2) else none
    else
      some (0, D)
def f_Quern_takePatch (v0 v1 : Int) (D : Mm) : Option (Int × Mm) :=
  if zI 10 ≤ zI (D v0 1) then
    some (0, D)
  else
    (f_Main_within (D v1 0) 0 7 D).bind fun r1 =>
    if zI r1 = 0 then
      some (0, D)
    else
      (f_Main_within (D v1 1) 0 3 D).bind fun r2 =>
      if zI r2 = 0 then
        some (0, D)
      else
        (f_Main_within (D v1 2) 1 9 D).bind fun r3 =>
        if zI r3 = 0 then
          some (0, D)
        else
          (f_Main_within (D v1 3) 0 15 D).bind fun r4 =>
          if zI r4 = 0 then
            some (0, D)
          else
            if 0 ≤ D v0 1 ∧ D v0 1 < 10 then (zst D (v0 + 8) (D v0 1) (D v1 0) fun D5 =>
            if 0 ≤ D5 v0 1 ∧ D5 v0 1 < 10 then (zst D5 (v0 + 9) (D5 v0 1) (D5 v1 1) fun D6 =>
            if 0 ≤ D6 v0 1 ∧ D6 v0 1 < 10 then (zst D6 (v0 + 10) (D6 v0 1) (D6 v1 2) fun D7 =>
            if 0 ≤ D7 v0 1 ∧ D7 v0 1 < 10 then (zst D7 (v0 + 11) (D7 v0 1) (D7 v1 3) fun D8 =>
            zst D8 v0 1 ((D8 v0 1) + 1) fun D9 =>
            some (1, D9)) else none) else none) else none) else none
def f_Quern_hasPatch (v0 v1 : Int) (D : Mm) : Option (Int) :=
  if zI v1 < 0 then
    some 0
  else
    if zI (D v0 1) ≤ zI v1 then
      some 0
    else
      some 1
def f_Quern_hasSort (v0 v1 : Int) (D : Mm) : Option (Int) :=
  if zI v1 < 0 then
    some 0
  else
    if zI (D v0 0) ≤ zI v1 then
      some 0
    else
      some 1
def f_Quern_takeUse (v0 v1 v2 v3 : Int) (D : Mm) : Option (Int × Mm) :=
  (f_Quern_hasPatch v0 v1 D).bind fun r1 =>
  if zI r1 = 0 then
    some (0, D)
  else
    (f_Quern_hasSort v0 v2 D).bind fun r2 =>
    if zI r2 = 0 then
      some (0, D)
    else
      (f_Main_within v3 0 60 D).bind fun r3 =>
      if zI r3 = 0 then
        some (0, D)
      else
        if 0 ≤ v1 ∧ v1 < 10 then
        if 0 ≤ v2 ∧ v2 < 6 then (zst D (v0 + 13 + v1) v2 v3 fun D4 =>
        some (1, D4)) else none else none
def f_Quern_isStep (v0 : Int) (D : Mm) : Option (Int) :=
  if zI v0 < 0 then
    some 0
  else
    if zI 4 ≤ zI v0 then
      some 0
    else
      some 1
def f_Quern_takeBook (v0 v1 v2 v3 : Int) (D : Mm) : Option (Int × Mm) :=
  (f_Quern_isStep v1 D).bind fun r1 =>
  if zI r1 = 0 then
    some (0, D)
  else
    (f_Quern_hasSort v0 v2 D).bind fun r2 =>
    if zI r2 = 0 then
      some (0, D)
    else
      (f_Main_within v3 0 9 D).bind fun r3 =>
      if zI r3 = 0 then
        some (0, D)
      else
        if 0 ≤ v1 ∧ v1 < 4 then
        if 0 ≤ v2 ∧ v2 < 6 then (zst D (v0 + 24 + v1) v2 v3 fun D4 =>
        some (1, D4)) else none else none
def f_Quern_takeWash (v0 v1 v2 : Int) (D : Mm) : Option (Int × Mm) :=
  (f_Quern_isStep v1 D).bind fun r1 =>
  if zI r1 = 0 then
    some (0, D)
  else
    (f_Main_within v2 0 99 D).bind fun r2 =>
    if zI r2 = 0 then
      some (0, D)
    else
      if 0 ≤ v1 ∧ v1 < 4 then (zst D (v0 + 28) v1 v2 fun D3 =>
      some (1, D3)) else none
def f_Quern_takeHours (v0 v1 v2 v3 : Int) (D : Mm) : Option (Int × Mm) :=
  (f_Quern_isStep v1 D).bind fun r1 =>
  if zI r1 = 0 then
    some (0, D)
  else
    (f_Main_within v2 0 99 D).bind fun r2 =>
    if zI r2 = 0 then
      some (0, D)
    else
      (f_Main_within v3 0 1 D).bind fun r3 =>
      if zI r3 = 0 then
        some (0, D)
      else
        if 0 ≤ v1 ∧ v1 < 4 then (zst D (v0 + 29) v1 v2 fun D4 =>
        zst D4 v0 11 (jor (jand (D4 v0 11) (jxor (jshl 1 v1) (-1))) (jshl v3 v1)) fun D5 =>
        some (1, D5)) else none
def f_Quern_takeSlip_48 (v0 v1 v2 v3 : Int)  (D : Mm) : Nat → Int → Int → Option (Int × Mm)
  | 0, _, _ => none
  | n + 1, v4, v5 =>
    if zI (D v0 0) ≤ zI v5 then
      if zI v4 ≤ zI 100 then
        if 0 ≤ v1 ∧ v1 < 6 then
        if 0 ≤ v2 ∧ v2 < 6 then (zst D (v0 + 31 + v1) v2 v3 fun D1 =>
        some (1, D1)) else none else none
      else
        some (0, D)
    else
      if 0 ≤ v1 ∧ v1 < 6 then
      if 0 ≤ v5 ∧ v5 < 6 then
      f_Quern_takeSlip_48 v0 v1 v2 v3 D n (v4 + (D (v0 + 31 + v1) v5)) (v5 + 1) else none else none
def f_Quern_takeSlip (v0 v1 v2 v3 : Int) (D : Mm) : Option (Int × Mm) :=
  (f_Quern_hasSort v0 v1 D).bind fun r1 =>
  if zI r1 = 0 then
    some (0, D)
  else
    (f_Quern_hasSort v0 v2 D).bind fun r2 =>
    if zI r2 = 0 then
      some (0, D)
    else
      if zI v1 = zI v2 then
        some (0, D)
      else
        (f_Main_within v3 0 99 D).bind fun r3 =>
        if zI r3 = 0 then
          some (0, D)
        else
          if 0 ≤ v1 ∧ v1 < 6 then
          if 0 ≤ v2 ∧ v2 < 6 then
          f_Quern_takeSlip_48 v0 v1 v2 v3 D zF (v3 - (D (v0 + 31 + v1) v2)) 0 else none else none
def f_Quern_take (v0 v1 v2 : Int) (D : Mm) : Option (Int × Mm) :=
  if zI v1 = zI 98 then
    zb (f_Quern_takeBook v0 (D v2 0) (D v2 1) (D v2 2) D) fun r1 D2 =>
    if r1 = 0 ∨ r1 = 1 then some (r1, D2) else none
  else
  if zI v1 = zI 102 then
    zb (f_Quern_takePatch v0 v2 D) fun r3 D4 =>
    if r3 = 0 ∨ r3 = 1 then some (r3, D4) else none
  else
  if zI v1 = zI 103 then
    zb (f_Quern_takeSort v0 v2 D) fun r5 D6 =>
    if r5 = 0 ∨ r5 = 1 then some (r5, D6) else none
  else
  if zI v1 = zI 116 then
    zb (f_Quern_takeHours v0 (D v2 0) (D v2 1) (D v2 2) D) fun r7 D8 =>
    if r7 = 0 ∨ r7 = 1 then some (r7, D8) else none
  else
  if zI v1 = zI 117 then
    zb (f_Quern_takeUse v0 (D v2 0) (D v2 1) (D v2 2) D) fun r9 D10 =>
    if r9 = 0 ∨ r9 = 1 then some (r9, D10) else none
  else
  if zI v1 = zI 119 then
    zb (f_Quern_takeWash v0 (D v2 0) (D v2 1) D) fun r11 D12 =>
    if r11 = 0 ∨ r11 = 1 then some (r11, D12) else none
  else
  if zI v1 = zI 120 then
    zb (f_Quern_takeSlip v0 (D v2 0) (D v2 1) (D v2 2) D) fun r13 D14 =>
    if r13 = 0 ∨ r13 = 1 then some (r13, D14) else none
  else
    some (0, D)
def f_Scribe_placeOfFault_9 (v2 : Int)  : Nat → Int → Int → Mm → Option (Int × Mm)
  | 0, _, _, _ => none
  | n + 1, v3, v4, D =>
    if zI 500 ≤ zI v4 then
      some ((-4), D)
    else
      if zI (D 2 1) ≤ zI v3 then
        some ((-4), D)
      else
        zb (f_Scribe_placeBehindItem v3 D) fun r1 D2 =>
        if zI r1 = zI (-1) then
          some (v3, D2)
        else
          (f_Text_at v3 D2).bind fun r3 =>
          zb (f_Quern_take v2 r3 5 D2) fun r4 D5 =>
          if zI r4 = 0 then
            some (v3, D5)
          else
            f_Scribe_placeOfFault_9 v2 n r1 (v4 + 1) D5
def f_Scribe_placeOfFault (v2 : Int) (D : Mm) : Option (Int × Mm) :=
  zb (f_Quern_clear v2 D) fun _ D2 =>
  f_Scribe_placeOfFault_9 v2 zF 0 0 D2
def f_Main_fault (D : Mm) : Option (Int × Mm) :=
  if D 1 8 = 32 ∨ D 1 8 = 69 then
  zb (f_Scribe_placeOfFault (D 1 8) D) fun r1 D2 =>
  some (r1, D2) else none
def f_Finds_clear_26 (v0 : Int)  : Nat → Int → Mm → Option (Int × Mm)
  | 0, _, _ => none
  | n + 1, v1, D =>
    if zI 6 ≤ zI v1 then
      zst D v0 2 0 fun D1 =>
      zst D1 v0 3 0 fun D2 =>
      zst D2 v0 4 0 fun D3 =>
      some (0, D3)
    else
      if 0 ≤ v1 ∧ v1 < 6 then
      zb (f_Arrays_fill (v0 + 13 + v1) 6 0 D) fun _ D5 =>
      f_Finds_clear_26 v0 n (v1 + 1) D5 else none
def f_Finds_clear_2 (v0 : Int)  : Nat → Int → Mm → Option (Int × Mm)
  | 0, _, _ => none
  | n + 1, v1, D =>
    if zI 10 ≤ zI v1 then
      f_Finds_clear_26 v0 zF 0 D
    else
      if 0 ≤ v1 ∧ v1 < 10 then
      zb (f_Arrays_fill (v0 + 2 + v1) 6 0 D) fun _ D2 =>
      f_Finds_clear_2 v0 n (v1 + 1) D2 else none
def f_Finds_clear (v0 : Int) (D : Mm) : Option (Int × Mm) :=
  f_Finds_clear_2 v0 zF 0 D
def f_Main_lay (D : Mm) : Option (Int × Mm) :=
  if D 1 8 = 32 ∨ D 1 8 = 69 then
  zb (f_Scribe_placeOfFault (D 1 8) D) fun r1 D2 =>
  if zI r1 = zI (-4) then
    if D2 1 8 = 32 ∨ D2 1 8 = 69 then
    if zI (D2 (D2 1 8) 0) = 0 then
      some ((-2), D2)
    else
      if D2 1 8 = 32 ∨ D2 1 8 = 69 then
      if zI (D2 (D2 1 8) 1) = 0 then
        some ((-2), D2)
      else
        if D2 1 7 = 32 ∨ D2 1 7 = 69 then
        if D2 1 8 = 32 ∨ D2 1 8 = 69 then
        zst D2 1 7 (D2 1 8) fun D3 =>
        zst D3 1 8 (D2 1 7) fun D4 =>
        zb (f_Finds_clear 12 D4) fun _ D6 =>
        zst D6 1 6 0 fun D7 =>
        if D7 1 7 = 32 ∨ D7 1 7 = 69 then
        some (D7 (D7 1 7) 1, D7) else none else none else none else none else none
  else
    some ((-2), D2) else none
def f_Finds_isRead (v0 v1 : Int) (D : Mm) : Option (Int) :=
  if zI (jand (jshr (D v0 2) v1) 1) = 0 then
    some 0
  else
    some 1
def f_Main_face (v1 v2 : Int) (D : Mm) : Option (Int) :=
  if D 1 7 = 32 ∨ D 1 7 = 69 then
  (f_Quern_hasPatch (D 1 7) v1 D).bind fun r1 =>
  if zI r1 = 0 then
    some (-1)
  else
    if zI v2 = zI 0 then
      if D 1 7 = 32 ∨ D 1 7 = 69 then
      if 0 ≤ v1 ∧ v1 < 10 then
      some (D ((D 1 7) + 8) v1) else none else none
    else
    if zI v2 = zI 1 then
      if D 1 7 = 32 ∨ D 1 7 = 69 then
      if 0 ≤ v1 ∧ v1 < 10 then
      some (D ((D 1 7) + 9) v1) else none else none
    else
    if zI v2 = zI 2 then
      if D 1 7 = 32 ∨ D 1 7 = 69 then
      if 0 ≤ v1 ∧ v1 < 10 then
      some (D ((D 1 7) + 10) v1) else none else none
    else
    if zI v2 = zI 3 then
      if D 1 7 = 32 ∨ D 1 7 = 69 then
      if 0 ≤ v1 ∧ v1 < 10 then
      some (D ((D 1 7) + 11) v1) else none else none
    else
    if zI v2 = zI 4 then
      (f_Finds_isRead 12 v1 D).bind fun r2 =>
      if zI r2 = 0 then
        some 0
      else
        some 1
    else
      some (-1) else none
def f_Quern_lying_90 (v0 v1 v2 v3 v4 v5 : Int) (K14 : Int → Int → Option (Int)) (D : Mm) : Option (Int) :=
  K14 v4 (v5 + 1)
def f_Quern_lying_22 (v0 v1 v2 v3 : Int)  (D : Mm) : Nat → Int → Int → Option (Int)
  | 0, _, _ => none
  | n + 1, v4, v5 =>
    if zI 4 ≤ zI v5 then
      some v4
    else
      if 0 ≤ v1 ∧ v1 < 10 then
      if zI (jand (jshr (D (v0 + 11) v1) v5) 1) = 0 then
        f_Quern_lying_90 v0 v1 v2 v3 v4 v5 (f_Quern_lying_22 v0 v1 v2 v3 D n) D
      else
        if 0 ≤ v5 ∧ v5 < 4 then
        if zI v5 = zI v3 then
          if 0 ≤ v5 ∧ v5 < 4 then
          if 0 ≤ v2 ∧ v2 < 6 then
          if 0 ≤ v1 ∧ v1 < 10 then
          zlt ((v4 - (jdiv (v4 * (D (v0 + 28) v5)) 100)) + ((D (v0 + 24 + v5) v2) * (D (v0 + 10) v1))) fun x1 =>
          f_Quern_lying_90 v0 v1 v2 v3 x1 v5 (f_Quern_lying_22 v0 v1 v2 v3 D n) D else none else none else none
        else
          f_Quern_lying_90 v0 v1 v2 v3 (v4 - (jdiv (v4 * (D (v0 + 28) v5)) 100)) v5 (f_Quern_lying_22 v0 v1 v2 v3 D n) D else none else none
def f_Quern_lying_17 (v0 v1 v2 v3 s0 : Int)  (D : Mm) : Option (Int) :=
  f_Quern_lying_22 v0 v1 v2 v3 D zF s0 0
def f_Quern_lying (v0 v1 v2 v3 : Int) (D : Mm) : Option (Int) :=
  if zI v3 = zI 4 then
    if 0 ≤ v1 ∧ v1 < 10 then
    if 0 ≤ v2 ∧ v2 < 6 then
    f_Quern_lying_17 v0 v1 v2 v3 (D (v0 + 13 + v1) v2) D else none else none
  else
    f_Quern_lying_17 v0 v1 v2 v3 0 D
def f_Quern_lyingOfAll_5 (v0 v1 v2 : Int)  (D : Mm) : Nat → Int → Int → Option (Int)
  | 0, _, _ => none
  | n + 1, v3, v4 =>
    if zI 5 ≤ zI v4 then
      some v3
    else
      (f_Quern_lying v0 v1 v2 v4 D).bind fun r1 =>
      f_Quern_lyingOfAll_5 v0 v1 v2 D n (v3 + r1) (v4 + 1)
def f_Quern_lyingOfAll (v0 v1 v2 : Int) (D : Mm) : Option (Int) :=
  f_Quern_lyingOfAll_5 v0 v1 v2 D zF 0 0
def f_Main_lies (v1 v2 v3 : Int) (D : Mm) : Option (Int) :=
  if D 1 7 = 32 ∨ D 1 7 = 69 then
  (f_Quern_hasPatch (D 1 7) v1 D).bind fun r1 =>
  if zI r1 = 0 then
    some (-1)
  else
    if D 1 7 = 32 ∨ D 1 7 = 69 then
    (f_Quern_hasSort (D 1 7) v2 D).bind fun r2 =>
    if zI r2 = 0 then
      some (-1)
    else
      (f_Main_within v3 (-1) 4 D).bind fun r3 =>
      if zI r3 = 0 then
        some (-1)
      else
        if zI v3 = zI (-1) then
          if D 1 7 = 32 ∨ D 1 7 = 69 then
          (f_Quern_lyingOfAll (D 1 7) v1 v2 D).bind fun r5 =>
          some r5 else none
        else
          if D 1 7 = 32 ∨ D 1 7 = 69 then
          (f_Quern_lying (D 1 7) v1 v2 v3 D).bind fun r4 =>
          some r4 else none else none else none
def f_Quern_draw (v0 v1 v2 : Int) (D : Mm) : Option (Int) :=
  zlt ((((7919 * (wI v1)) + (6151 * (wI v2))) + (3571 * (wI v0))) + 1) fun x1 =>
  some (jlrem (jlrem (x1 * x1) 65521) 100)
def f_Quern_calledBy_5 (v0 v1 v2 : Int)  (D : Mm) : Nat → Int → Int → Option (Int)
  | 0, _, _ => none
  | n + 1, v3, v4 =>
    if zI (D v0 0) ≤ zI v4 then
      some v1
    else
      if 0 ≤ v1 ∧ v1 < 6 then
      if 0 ≤ v4 ∧ v4 < 6 then
      if zI (v3 + (D (v0 + 31 + v1) v4)) ≤ zI v2 then
        f_Quern_calledBy_5 v0 v1 v2 D n (v3 + (D (v0 + 31 + v1) v4)) (v4 + 1)
      else
        some v4 else none else none
def f_Quern_calledBy (v0 v1 v2 : Int) (D : Mm) : Option (Int) :=
  f_Quern_calledBy_5 v0 v1 v2 D zF 0 0
def f_Quern_calledOn_57 (v0 v1 v2 v3 v4 v5 v6 v7 : Int) (K17 : Int → Int → Option (Int)) (D : Mm) : Option (Int) :=
  K17 v4 (v5 + 1)
def f_Quern_calledOn_30 (v0 v1 v2 v3 v6 v7 : Int) (K6 : Int → Int → Int → Option (Int))  (D : Mm) : Nat → Int → Int → Option (Int)
  | 0, _, _ => none
  | n + 1, v4, v5 =>
    if zI v7 ≤ zI v5 then
      K6 v4 v5 (v6 + 1)
    else
      (f_Quern_draw v1 v2 v5 D).bind fun r1 =>
      (f_Quern_calledBy v0 v6 r1 D).bind fun r2 =>
      if zI r2 = zI v3 then
        f_Quern_calledOn_57 v0 v1 v2 v3 (v4 + 1) v5 v6 v7 (f_Quern_calledOn_30 v0 v1 v2 v3 v6 v7 K6 D n) D
      else
        f_Quern_calledOn_57 v0 v1 v2 v3 v4 v5 v6 v7 (f_Quern_calledOn_30 v0 v1 v2 v3 v6 v7 K6 D n) D
def f_Quern_calledOn_9 (v0 v1 v2 v3 : Int)  (D : Mm) : Nat → Int → Int → Int → Option (Int)
  | 0, _, _, _ => none
  | n + 1, v4, v5, v6 =>
    if zI (D v0 0) ≤ zI v6 then
      some v4
    else
      (f_Quern_lyingOfAll v0 v1 v6 D).bind fun r1 =>
      f_Quern_calledOn_30 v0 v1 v2 v3 v6 (v5 + r1) (f_Quern_calledOn_9 v0 v1 v2 v3 D n) D zF v4 v5
def f_Quern_calledOn (v0 v1 v2 v3 : Int) (D : Mm) : Option (Int) :=
  f_Quern_calledOn_9 v0 v1 v2 v3 D zF 0 0 0
def f_Main_read (v1 v2 v3 : Int) (D : Mm) : Option (Int) :=
  if D 1 7 = 32 ∨ D 1 7 = 69 then
  (f_Quern_hasPatch (D 1 7) v1 D).bind fun r1 =>
  if zI r1 = 0 then
    some (-1)
  else
    (f_Main_within v2 0 9999 D).bind fun r2 =>
    if zI r2 = 0 then
      some (-1)
    else
      if D 1 7 = 32 ∨ D 1 7 = 69 then
      (f_Quern_hasSort (D 1 7) v3 D).bind fun r3 =>
      if zI r3 = 0 then
        some (-1)
      else
        if D 1 7 = 32 ∨ D 1 7 = 69 then
        (f_Quern_calledOn (D 1 7) v1 v2 v3 D).bind fun r4 =>
        some r4 else none else none else none
def f_Odds_power_5 (v0 v2 : Int)  (D : Mm) : Nat → Int → Int → Option (Int)
  | 0, _, _ => none
  | n + 1, v3, v5 =>
    if zI v2 ≤ zI v5 then
      some v3
    else
      f_Odds_power_5 v0 v2 D n (v3 * v0) (v5 + 1)
def f_Odds_power (v0 v2 : Int) (D : Mm) : Option (Int) :=
  f_Odds_power_5 v0 v2 D zF 1 0
def f_Odds_waysOfAtLeast_46 (v0 v1 v2 v3 v4 v6 v8 : Int) (K6 : Int → Int → Int → Option (Int)) (D : Mm) : Option (Int) :=
  if zL (wI (v8 + 1)) = 0 then none else
  K6 v4 (jldiv (v6 * (wI (v1 - v8))) (wI (v8 + 1))) (v8 + 1)
def f_Odds_waysOfAtLeast_9 (v0 v1 v2 v3 : Int)  (D : Mm) : Nat → Int → Int → Int → Option (Int)
  | 0, _, _, _ => none
  | n + 1, v4, v6, v8 =>
    if zI v1 < zI v8 then
      some v4
    else
      if zI v8 < zI v0 then
        f_Odds_waysOfAtLeast_46 v0 v1 v2 v3 v4 v6 v8 (f_Odds_waysOfAtLeast_9 v0 v1 v2 v3 D n) D
      else
        (f_Odds_power (wI v2) v8 D).bind fun r1 =>
        (f_Odds_power (wI v3) (v1 - v8) D).bind fun r2 =>
        f_Odds_waysOfAtLeast_46 v0 v1 v2 v3 (v4 + ((v6 * r1) * r2)) v6 v8 (f_Odds_waysOfAtLeast_9 v0 v1 v2 v3 D n) D
def f_Odds_waysOfAtLeast (v0 v1 v2 v3 : Int) (D : Mm) : Option (Int) :=
  f_Odds_waysOfAtLeast_9 v0 v1 v2 v3 D zF 0 1 0
def f_Odds_commonDivisor_9  (D : Mm) : Nat → Int → Int → Int → Option (Int)
  | 0, _, _, _ => none
  | n + 1, v4, v6, v8 =>
    if zI 100 ≤ zI v8 then
      some v4
    else
      if zL v6 = zL 0 then
        some v4
      else
        if zL v6 = 0 then none else
        f_Odds_commonDivisor_9 D n v6 (jlrem v4 v6) (v8 + 1)
def f_Odds_commonDivisor (v0 v2 : Int) (D : Mm) : Option (Int) :=
  f_Odds_commonDivisor_9 D zF v0 v2 0
def f_Odds_inLowestTerms_10 (v0 v2 s0 : Int)  (D : Mm) : Option (Int) :=
  (f_Odds_commonDivisor v0 v2 D).bind fun r1 =>
  if zL r1 = zL 0 then
    some s0
  else
    if zL r1 = 0 then none else
    some (jldiv s0 r1)
def f_Odds_inLowestTerms (v0 v2 v4 : Int) (D : Mm) : Option (Int) :=
  if zI v4 = 0 then
    f_Odds_inLowestTerms_10 v0 v2 v0 D
  else
    f_Odds_inLowestTerms_10 v0 v2 v2 D
def f_Main_more_57  (D : Mm) : Option (Int) :=
  some (-1)
def f_Main_more_32  (D : Mm) : Option (Int) :=
  some (-1)
def f_Main_more (v1 v2 v3 v4 v5 : Int) (D : Mm) : Option (Int) :=
  (f_Main_within v1 0 12 D).bind fun r1 =>
  if zI r1 = 0 then
    f_Main_more_32 D
  else
    (f_Main_within v3 0 (12 - v1) D).bind fun r2 =>
    if zI r2 = 0 then
      f_Main_more_32 D
    else
      (f_Main_within v5 0 1 D).bind fun r3 =>
      if zI r3 = 0 then
        f_Main_more_32 D
      else
        (f_Main_within v2 1 9 D).bind fun r4 =>
        if zI r4 = 0 then
          f_Main_more_57 D
        else
          (f_Main_within v4 1 9 D).bind fun r5 =>
          if zI r5 = 0 then
            f_Main_more_57 D
          else
            (f_Odds_waysOfAtLeast v1 (v1 + v3) v2 v4 D).bind fun r6 =>
            (f_Odds_power (wI (v2 + v4)) (v1 + v3) D).bind fun r7 =>
            (f_Odds_inLowestTerms r6 r7 v5 D).bind fun r8 =>
            some r8
def f_Odds_areRare (v0 v1 v2 v3 : Int) (D : Mm) : Option (Int) :=
  (f_Odds_power (wI v1) v0 D).bind fun r1 =>
  (f_Odds_power (wI (v1 + v2)) v0 D).bind fun r2 =>
  if zL r2 < zL (r1 * (wI v3)) then
    some 0
  else
    some 1
def f_Main_says_36 (v1 v2 v3 : Int)  (D : Mm) : Nat → Int → Option (Int)
  | 0, _ => none
  | n + 1, v4 =>
    if zI 12 < zI v4 then
      some (-4)
    else
      (f_Odds_areRare v4 v1 v2 v3 D).bind fun r1 =>
      if zI r1 = 0 then
        f_Main_says_36 v1 v2 v3 D n (v4 + 1)
      else
        some v4
def f_Main_says (v1 v2 v3 : Int) (D : Mm) : Option (Int) :=
  (f_Main_within v1 1 9 D).bind fun r1 =>
  if zI r1 = 0 then
    some (-1)
  else
    (f_Main_within v2 1 9 D).bind fun r2 =>
    if zI r2 = 0 then
      some (-1)
    else
      (f_Main_within v3 1 1000 D).bind fun r3 =>
      if zI r3 = 0 then
        some (-1)
      else
        f_Main_says_36 v1 v2 v3 D zF 0
def f_Main_controls_36 (v1 v2 v3 : Int)  (D : Mm) : Nat → Int → Option (Int)
  | 0, _ => none
  | n + 1, v4 =>
    if zI 99 < zI v4 then
      some (-4)
    else
      (f_Odds_areRare v1 v2 v4 v3 D).bind fun r1 =>
      if zI r1 = 0 then
        f_Main_controls_36 v1 v2 v3 D n (v4 + 1)
      else
        some v4
def f_Main_controls (v1 v2 v3 : Int) (D : Mm) : Option (Int) :=
  (f_Main_within v1 1 9 D).bind fun r1 =>
  if zI r1 = 0 then
    some (-1)
  else
    (f_Main_within v2 1 9 D).bind fun r2 =>
    if zI r2 = 0 then
      some (-1)
    else
      (f_Main_within v3 1 1000 D).bind fun r3 =>
      if zI r3 = 0 then
        some (-1)
      else
        f_Main_controls_36 v1 v2 v3 D zF 1
def f_Heap_pile (v1 v2 v3 v4 v5 : Int) (D : Mm) : Option (Int × Mm) :=
  (f_Main_within v1 0 v5 D).bind fun r1 =>
  if zI r1 = 0 then
    some (0, D)
  else
    (f_Main_within v2 0 (v5 - v1) D).bind fun r2 =>
    if zI r2 = 0 then
      some (0, D)
    else
      (f_Main_within v3 0 ((v5 - v1) - v2) D).bind fun r3 =>
      if zI r3 = 0 then
        some (0, D)
      else
        (f_Main_within v4 0 (((v5 - v1) - v2) - v3) D).bind fun r4 =>
        if zI r4 = 0 then
          some (0, D)
        else
          zst D 11 0 v1 fun D5 =>
          zst D5 11 1 v2 fun D6 =>
          zst D6 11 2 v3 fun D7 =>
          zst D7 11 3 v4 fun D8 =>
          some (1, D8)
def f_Heap_productOfMix_6 (v1 v2 v3 v4 : Int)  (D : Mm) : Nat → Int → Int → Option (Int)
  | 0, _, _ => none
  | n + 1, v5, v7 =>
    if zI 4 ≤ zI v7 then
      some v5
    else
      if 0 ≤ v7 ∧ v7 < 4 then
      if 0 ≤ v7 ∧ v7 < 4 then
      if 0 ≤ v7 ∧ v7 < 4 then
      (f_Odds_power (wI ((v1 * (D v2 v7)) + (v3 * (D v4 v7)))) (D 11 v7) D).bind fun r1 =>
      f_Heap_productOfMix_6 v1 v2 v3 v4 D n (v5 * r1) (v7 + 1) else none else none else none
def f_Heap_productOfMix (v1 v2 v3 v4 : Int) (D : Mm) : Option (Int) :=
  f_Heap_productOfMix_6 v1 v2 v3 v4 D zF 1 0
def f_Heap_productOf (v1 : Int) (D : Mm) : Option (Int) :=
  (f_Heap_productOfMix 1 v1 0 v1 D).bind fun r1 =>
  some r1
def f_Main_heap_49 (v1 v6 : Int)  (D : Mm) : Nat → Int → Int → Option (Int × Mm)
  | 0, _, _ => none
  | n + 1, v7, v9 =>
    if D 1 7 = 32 ∨ D 1 7 = 69 then
    if zI (D (D 1 7) 0) ≤ zI v9 then
      if zL v7 = zL 0 then
        some ((-4), D)
      else
        if D 1 7 = 32 ∨ D 1 7 = 69 then
        if 0 ≤ v1 ∧ v1 < 6 then
        (f_Heap_productOf ((D 1 7) + 2 + v1) D).bind fun r1 =>
        (f_Odds_inLowestTerms r1 v7 v6 D).bind fun r2 =>
        some (r2, D) else none else none
    else
      if D 1 7 = 32 ∨ D 1 7 = 69 then
      if 0 ≤ v9 ∧ v9 < 6 then
      (f_Heap_productOf ((D 1 7) + 2 + v9) D).bind fun r3 =>
      f_Main_heap_49 v1 v6 D n (v7 + r3) (v9 + 1) else none else none else none
def f_Main_heap_39  (D : Mm) : Option (Int × Mm) :=
  some ((-1), D)
def f_Main_heap (v1 v2 v3 v4 v5 v6 : Int) (D : Mm) : Option (Int × Mm) :=
  if D 1 7 = 32 ∨ D 1 7 = 69 then
  (f_Quern_hasSort (D 1 7) v1 D).bind fun r1 =>
  if zI r1 = 0 then
    f_Main_heap_39 D
  else
    (f_Main_within v6 0 1 D).bind fun r2 =>
    if zI r2 = 0 then
      f_Main_heap_39 D
    else
      zb (f_Heap_pile v2 v3 v4 v5 8 D) fun r3 D4 =>
      if zI r3 = 0 then
        f_Main_heap_39 D4
      else
        f_Main_heap_49 v1 v6 D4 zF 0 0 else none
def f_Main_most_76 (v5 v6 v8 : Int) (K17 : Int → Int → Int → Option (Int × Mm)) (D : Mm) : Option (Int × Mm) :=
  K17 v5 v6 (v8 + 1)
def f_Main_most_29  (D : Mm) : Nat → Int → Int → Int → Option (Int × Mm)
  | 0, _, _, _ => none
  | n + 1, v5, v6, v8 =>
    if D 1 7 = 32 ∨ D 1 7 = 69 then
    if zI (D (D 1 7) 0) ≤ zI v8 then
      some (v5, D)
    else
      if D 1 7 = 32 ∨ D 1 7 = 69 then
      if 0 ≤ v8 ∧ v8 < 6 then
      (f_Heap_productOf ((D 1 7) + 2 + v8) D).bind fun r1 =>
      if zL r1 ≤ zL v6 then
        f_Main_most_76 v5 v6 v8 (f_Main_most_29 D n) D
      else
        f_Main_most_76 v8 r1 v8 (f_Main_most_29 D n) D else none else none else none
def f_Main_most (v1 v2 v3 v4 : Int) (D : Mm) : Option (Int × Mm) :=
  zb (f_Heap_pile v1 v2 v3 v4 8 D) fun r1 D2 =>
  if zI r1 = 0 then
    some ((-1), D2)
  else
    f_Main_most_29 D2 zF (-4) 0 0
def f_Heap_bestShare_47 (v1 v2 v3 v4 v6 : Int) (K6 : Int → Int → Int → Option (Int)) (D : Mm) : Option (Int) :=
  K6 v3 v4 (v6 + 1)
def f_Heap_bestShare_10 (v1 v2 : Int)  (D : Mm) : Nat → Int → Int → Int → Option (Int)
  | 0, _, _, _ => none
  | n + 1, v3, v4, v6 =>
    if zI 10 < zI v6 then
      some v3
    else
      (f_Heap_productOfMix v6 v1 (10 - v6) v2 D).bind fun r1 =>
      if zL r1 ≤ zL v4 then
        f_Heap_bestShare_47 v1 v2 v3 v4 v6 (f_Heap_bestShare_10 v1 v2 D n) D
      else
        f_Heap_bestShare_47 v1 v2 v6 r1 v6 (f_Heap_bestShare_10 v1 v2 D n) D
def f_Heap_bestShare (v1 v2 : Int) (D : Mm) : Option (Int) :=
  f_Heap_bestShare_10 v1 v2 D zF 0 (-1) 0
def f_Main_shares (v1 v2 v3 v4 v5 v6 : Int) (D : Mm) : Option (Int × Mm) :=
  if D 1 7 = 32 ∨ D 1 7 = 69 then
  (f_Quern_hasSort (D 1 7) v1 D).bind fun r1 =>
  if zI r1 = 0 then
    some ((-1), D)
  else
    if D 1 7 = 32 ∨ D 1 7 = 69 then
    (f_Quern_hasSort (D 1 7) v2 D).bind fun r2 =>
    if zI r2 = 0 then
      some ((-1), D)
    else
      if zI v1 = zI v2 then
        some ((-1), D)
      else
        zb (f_Heap_pile v3 v4 v5 v6 6 D) fun r3 D4 =>
        if zI r3 = 0 then
          some ((-1), D4)
        else
          if D4 1 7 = 32 ∨ D4 1 7 = 69 then
          if 0 ≤ v1 ∧ v1 < 6 then
          if D4 1 7 = 32 ∨ D4 1 7 = 69 then
          if 0 ≤ v2 ∧ v2 < 6 then
          (f_Heap_bestShare ((D4 1 7) + 2 + v1) ((D4 1 7) + 2 + v2) D4).bind fun r5 =>
          some (r5, D4) else none else none else none else none else none else none
def f_Quern_cookedWave_47 (v0 v1 v3 v4 s0 : Int)  (D : Mm) : Option (Int) :=
  if 0 ≤ v1 ∧ v1 < 6 then
  if 0 ≤ v3 ∧ v3 < 4 then
  some (((D (v0 + 2 + v1) v3) - v4) + s0) else none else none
def f_Quern_cookedWave_22 (v0 v1 v2 v3 s0 : Int)  (D : Mm) : Option (Int) :=
  if zI v3 ≤ 0 then
    f_Quern_cookedWave_47 v0 v1 v3 s0 0 D
  else
    if 0 ≤ v1 ∧ v1 < 6 then
    if 0 ≤ v3 - 1 ∧ v3 - 1 < 4 then
    f_Quern_cookedWave_47 v0 v1 v3 s0 (jdiv ((D (v0 + 2 + v1) (v3 - 1)) * v2) 100) D else none else none
def f_Quern_cookedWave (v0 v1 v2 v3 : Int) (D : Mm) : Option (Int) :=
  if zI 3 ≤ zI v3 then
    f_Quern_cookedWave_22 v0 v1 v2 v3 0 D
  else
    if 0 ≤ v1 ∧ v1 < 6 then
    if 0 ≤ v3 ∧ v3 < 4 then
    f_Quern_cookedWave_22 v0 v1 v2 v3 (jdiv ((D (v0 + 2 + v1) v3) * v2) 100) D else none else none
def f_Math_abs (v0 : Int) (D : Mm) : Option (Int) :=
  if 0 ≤ zI v0 then
    some v0
  else
    some (-v0)
def f_Quern_differenceOfCooked_6 (v0 v1 v2 v3 : Int)  (D : Mm) : Nat → Int → Int → Option (Int)
  | 0, _, _ => none
  | n + 1, v4, v5 =>
    if zI 4 ≤ zI v5 then
      some v4
    else
      (f_Quern_cookedWave v0 v1 v2 v5 D).bind fun r1 =>
      if 0 ≤ v3 ∧ v3 < 6 then
      if 0 ≤ v5 ∧ v5 < 4 then
      (f_Math_abs (r1 - (D (v0 + 2 + v3) v5)) D).bind fun r2 =>
      f_Quern_differenceOfCooked_6 v0 v1 v2 v3 D n (v4 + r2) (v5 + 1) else none else none
def f_Quern_differenceOfCooked (v0 v1 v2 v3 : Int) (D : Mm) : Option (Int) :=
  f_Quern_differenceOfCooked_6 v0 v1 v2 v3 D zF 0 0
def f_Quern_nearOnes_33 (v0 v1 v2 v3 v4 : Int) (K4 : Int → Int → Option (Int)) (D : Mm) : Option (Int) :=
  K4 v3 (v4 + 1)
def f_Quern_nearOnes_5 (v0 v1 v2 : Int)  (D : Mm) : Nat → Int → Int → Option (Int)
  | 0, _, _ => none
  | n + 1, v3, v4 =>
    if zI (D v0 0) ≤ zI v4 then
      some v3
    else
      (f_Quern_differenceOfCooked v0 v1 0 v4 D).bind fun r1 =>
      if zI v2 < zI r1 then
        f_Quern_nearOnes_33 v0 v1 v2 v3 v4 (f_Quern_nearOnes_5 v0 v1 v2 D n) D
      else
        f_Quern_nearOnes_33 v0 v1 v2 (jor v3 (jshl 1 v4)) v4 (f_Quern_nearOnes_5 v0 v1 v2 D n) D
def f_Quern_nearOnes (v0 v1 v2 : Int) (D : Mm) : Option (Int) :=
  f_Quern_nearOnes_5 v0 v1 v2 D zF 0 0
def f_Integer_numberOfTrailingZeros_74 (v0 v1 : Int)  (D : Mm) : Option (Int) :=
  some (v1 + (jushr v0 1))
def f_Integer_numberOfTrailingZeros_62 (v0 v1 : Int)  (D : Mm) : Option (Int) :=
  if zI v0 ≤ zI 4 then
    f_Integer_numberOfTrailingZeros_74 v0 v1 D
  else
    f_Integer_numberOfTrailingZeros_74 (jushr v0 2) (v1 + 2) D
def f_Integer_numberOfTrailingZeros_49 (v0 v1 : Int)  (D : Mm) : Option (Int) :=
  if zI v0 ≤ zI 16 then
    f_Integer_numberOfTrailingZeros_62 v0 v1 D
  else
    f_Integer_numberOfTrailingZeros_62 (jushr v0 4) (v1 + 4) D
def f_Integer_numberOfTrailingZeros_34 (v0 v1 : Int)  (D : Mm) : Option (Int) :=
  if zI v0 ≤ zI 256 then
    f_Integer_numberOfTrailingZeros_49 v0 v1 D
  else
    f_Integer_numberOfTrailingZeros_49 (jushr v0 8) (v1 + 8) D
def f_Integer_numberOfTrailingZeros (v0 : Int) (D : Mm) : Option (Int) :=
  if 0 < zI (jand (jxor v0 (-1)) (v0 - 1)) then
    if zI (jand (jxor v0 (-1)) (v0 - 1)) ≤ zI 65536 then
      f_Integer_numberOfTrailingZeros_34 (jand (jxor v0 (-1)) (v0 - 1)) 1 D
    else
      f_Integer_numberOfTrailingZeros_34 (jushr (jand (jxor v0 (-1)) (v0 - 1)) 16) (1 + 16) D
  else
    some (jand (jand (jxor v0 (-1)) (v0 - 1)) 32)
def f_Quern_lowestKin_47 (v0 v2 v3 v4 v5 : Int) (K12 : Int → Int → Option (Int)) (D : Mm) : Option (Int) :=
  K12 v3 (v5 + 1)
def f_Quern_lowestKin_19 (v0 v2 v4 : Int) (K6 : Int → Int → Option (Int))  (D : Mm) : Nat → Int → Int → Option (Int)
  | 0, _, _ => none
  | n + 1, v3, v5 =>
    if zI (D v0 0) ≤ zI v5 then
      K6 v3 (v4 + 1)
    else
      if zI (jand (jshr v3 v5) 1) = 0 then
        f_Quern_lowestKin_47 v0 v2 v3 v4 v5 (f_Quern_lowestKin_19 v0 v2 v4 K6 D n) D
      else
        (f_Quern_nearOnes v0 v5 v2 D).bind fun r1 =>
        f_Quern_lowestKin_47 v0 v2 (jor v3 r1) v4 v5 (f_Quern_lowestKin_19 v0 v2 v4 K6 D n) D
def f_Quern_lowestKin_7 (v0 v2 : Int)  (D : Mm) : Nat → Int → Int → Option (Int)
  | 0, _, _ => none
  | n + 1, v3, v4 =>
    if zI (D v0 0) ≤ zI v4 then
      (f_Integer_numberOfTrailingZeros v3 D).bind fun r1 =>
      some r1
    else
      f_Quern_lowestKin_19 v0 v2 v4 (f_Quern_lowestKin_7 v0 v2 D n) D zF v3 0
def f_Quern_lowestKin (v0 v1 v2 : Int) (D : Mm) : Option (Int) :=
  f_Quern_lowestKin_7 v0 v2 D zF (jshl 1 v1) 1
def f_Quern_kinsOf_25 (v0 v1 v2 v3 : Int) (K4 : Int → Int → Option (Int)) (D : Mm) : Option (Int) :=
  K4 v2 (v3 + 1)
def f_Quern_kinsOf_4 (v0 v1 : Int)  (D : Mm) : Nat → Int → Int → Option (Int)
  | 0, _, _ => none
  | n + 1, v2, v3 =>
    if zI (D v0 0) ≤ zI v3 then
      some v2
    else
      (f_Quern_lowestKin v0 v3 v1 D).bind fun r1 =>
      if zI r1 = zI v3 then
        f_Quern_kinsOf_25 v0 v1 (v2 + 1) v3 (f_Quern_kinsOf_4 v0 v1 D n) D
      else
        f_Quern_kinsOf_25 v0 v1 v2 v3 (f_Quern_kinsOf_4 v0 v1 D n) D
def f_Quern_kinsOf (v0 v1 : Int) (D : Mm) : Option (Int) :=
  f_Quern_kinsOf_4 v0 v1 D zF 0 0
def f_Main_kin_29 (v1 v2 : Int)  (D : Mm) : Option (Int) :=
  if zI v2 = zI (-1) then
    if D 1 7 = 32 ∨ D 1 7 = 69 then
    (f_Quern_kinsOf (D 1 7) v1 D).bind fun r2 =>
    some r2 else none
  else
    if D 1 7 = 32 ∨ D 1 7 = 69 then
    (f_Quern_lowestKin (D 1 7) v2 v1 D).bind fun r1 =>
    some r1 else none
def f_Main_kin (v1 v2 : Int) (D : Mm) : Option (Int) :=
  (f_Main_within v1 0 200 D).bind fun r1 =>
  if zI r1 = 0 then
    some (-1)
  else
    if zI v2 = zI (-1) then
      f_Main_kin_29 v1 v2 D
    else
      if D 1 7 = 32 ∨ D 1 7 = 69 then
      (f_Quern_hasSort (D 1 7) v2 D).bind fun r2 =>
      if zI r2 = 0 then
        some (-1)
      else
        f_Main_kin_29 v1 v2 D else none
def f_Quern_likeCooked_35 (v0 v1 v2 v3 v4 : Int) (K4 : Int → Int → Option (Int)) (D : Mm) : Option (Int) :=
  K4 v3 (v4 + 1)
def f_Quern_likeCooked_5 (v0 v1 v2 : Int)  (D : Mm) : Nat → Int → Int → Option (Int)
  | 0, _, _ => none
  | n + 1, v3, v4 =>
    if zI (D v0 0) ≤ zI v4 then
      some v3
    else
      (f_Quern_differenceOfCooked v0 v1 v2 v4 D).bind fun r1 =>
      (f_Quern_differenceOfCooked v0 v1 v2 v3 D).bind fun r2 =>
      if zI r2 ≤ zI r1 then
        f_Quern_likeCooked_35 v0 v1 v2 v3 v4 (f_Quern_likeCooked_5 v0 v1 v2 D n) D
      else
        f_Quern_likeCooked_35 v0 v1 v2 v4 v4 (f_Quern_likeCooked_5 v0 v1 v2 D n) D
def f_Quern_likeCooked (v0 v1 v2 : Int) (D : Mm) : Option (Int) :=
  f_Quern_likeCooked_5 v0 v1 v2 D zF 0 1
def f_Main_cooked (v1 v2 v3 : Int) (D : Mm) : Option (Int) :=
  if D 1 7 = 32 ∨ D 1 7 = 69 then
  (f_Quern_hasSort (D 1 7) v1 D).bind fun r1 =>
  if zI r1 = 0 then
    some (-1)
  else
    (f_Main_within v2 0 100 D).bind fun r2 =>
    if zI r2 = 0 then
      some (-1)
    else
      (f_Main_within v3 0 4 D).bind fun r3 =>
      if zI r3 = 0 then
        some (-1)
      else
        if zI v3 = zI 4 then
          if D 1 7 = 32 ∨ D 1 7 = 69 then
          (f_Quern_likeCooked (D 1 7) v1 v2 D).bind fun r5 =>
          some r5 else none
        else
          if D 1 7 = 32 ∨ D 1 7 = 69 then
          (f_Quern_cookedWave (D 1 7) v1 v2 v3 D).bind fun r4 =>
          some r4 else none else none
def f_Finds_tell (v0 v1 v2 v3 : Int) (D : Mm) : Option (Int × Mm) :=
  if 0 ≤ v1 ∧ v1 < 10 then
  if 0 ≤ v2 ∧ v2 < 6 then
  if 0 ≤ v1 ∧ v1 < 10 then
  if 0 ≤ v2 ∧ v2 < 6 then (zst D (v0 + 2 + v1) v2 v3 fun D1 =>
  zst D1 v0 2 (jor (D1 v0 2) (jshl 1 v1)) fun D2 =>
  some (D (v0 + 2 + v1) v2, D2)) else none else none else none else none
def f_Main_count (v1 v2 v3 : Int) (D : Mm) : Option (Int × Mm) :=
  if D 1 7 = 32 ∨ D 1 7 = 69 then
  (f_Quern_hasPatch (D 1 7) v1 D).bind fun r1 =>
  if zI r1 = 0 then
    some ((-1), D)
  else
    if D 1 7 = 32 ∨ D 1 7 = 69 then
    (f_Quern_hasSort (D 1 7) v2 D).bind fun r2 =>
    if zI r2 = 0 then
      some ((-1), D)
    else
      (f_Main_within v3 0 99 D).bind fun r3 =>
      if zI r3 = 0 then
        some ((-1), D)
      else
        zb (f_Finds_tell 12 v1 v2 v3 D) fun r4 D5 =>
        some (r4, D5) else none else none
def f_Main_isDoubt (v0 : Int) (D : Mm) : Option (Int) :=
  (f_Main_within v0 0 99 D).bind fun r1 =>
  if r1 = 0 ∨ r1 = 1 then some r1 else none
def f_Math_max (v0 v1 : Int) (D : Mm) : Option (Int) :=
  if zI v0 < zI v1 then
    some v1
  else
    some v0
def f_Math_min (v0 v1 : Int) (D : Mm) : Option (Int) :=
  if zI v1 < zI v0 then
    some v1
  else
    some v0
def f_Integer_bitCount (v0 : Int) (D : Mm) : Option (Int) :=
  zlt ((jand (v0 - (jand (jushr v0 1) 1431655765)) 858993459) + (jand (jushr (v0 - (jand (jushr v0 1) 1431655765)) 2) 858993459)) fun x1 =>
  zlt ((jand (x1 + (jushr x1 4)) 252645135) + (jushr (jand (x1 + (jushr x1 4)) 252645135) 8)) fun x2 =>
  some (jand (x2 + (jushr x2 16)) 63)
def f_Books_boundSum_104 (v1 : Int)  (D : Mm) : Option (Int × Mm) :=
  zst D 6 3 (jor (D 6 3) v1) fun D1 =>
  some (0, D1)
def f_Books_boundSum_53 (v1 v5 v6 : Int)  (D : Mm) : Option (Int × Mm) :=
  if 0 ≤ v1 ∧ v1 < 16 then
  (f_Math_max (D 7 v1) v5 D).bind fun r1 =>
  if 0 ≤ v1 ∧ v1 < 16 then (zst D 7 v1 r1 fun D2 =>
  if 0 ≤ v1 ∧ v1 < 16 then
  (f_Math_min (D2 8 v1) v6 D2).bind fun r3 =>
  if 0 ≤ v1 ∧ v1 < 16 then (zst D2 8 v1 r3 fun D4 =>
  if 0 < zI v5 then
    f_Books_boundSum_104 v1 D4
  else
    (f_Integer_bitCount v1 D4).bind fun r5 =>
    if zI (9 * r5) ≤ zI v6 then
      some (0, D4)
    else
      f_Books_boundSum_104 v1 D4) else none else none) else none else none
def f_Books_boundSum_31 (v1 v2 v3 v4 v5 : Int)  (D : Mm) : Nat → Int → Option (Int × Mm)
  | 0, _ => none
  | n + 1, v6 =>
    if zI v6 < 0 then
      f_Books_boundSum_53 v1 v5 v6 D
    else
      if zI (v6 * v2) ≤ zI (v3 + v4) then
        f_Books_boundSum_53 v1 v5 v6 D
      else
        f_Books_boundSum_31 v1 v2 v3 v4 v5 D n (v6 + (-1))
def f_Books_boundSum_27 (v1 v2 v3 v4 v5 : Int)  (D : Mm) : Option (Int × Mm) :=
  f_Books_boundSum_31 v1 v2 v3 v4 v5 D zF 36
def f_Books_boundSum_3 (v1 v2 v3 v4 : Int)  (D : Mm) : Nat → Int → Option (Int × Mm)
  | 0, _ => none
  | n + 1, v5 =>
    if zI 36 < zI v5 then
      f_Books_boundSum_27 v1 v2 v3 v4 v5 D
    else
      if zI (v3 - v4) ≤ zI (v5 * v2) then
        f_Books_boundSum_27 v1 v2 v3 v4 v5 D
      else
        f_Books_boundSum_3 v1 v2 v3 v4 D n (v5 + 1)
def f_Books_boundSum (v1 v2 v3 v4 : Int) (D : Mm) : Option (Int × Mm) :=
  f_Books_boundSum_3 v1 v2 v3 v4 D zF 0
def f_Books_boundSums_83 (v1 v2 v3 v4 v5 : Int) (K13 : Int → Mm → Option (Int × Mm)) (D : Mm) : Option (Int × Mm) :=
  K13 (v5 + 1) D
def f_Books_boundSums_25 (v1 v2 v3 v4 : Int)  : Nat → Int → Mm → Option (Int × Mm)
  | 0, _, _ => none
  | n + 1, v5, D =>
    if zI (D v1 1) ≤ zI v5 then
      some (0, D)
    else
      if 0 ≤ v5 ∧ v5 < 10 then
      if zI (D (v1 + 9) v5) = zI 3 then
        (f_Finds_isRead v2 v5 D).bind fun r1 =>
        if zI r1 = 0 then
          f_Books_boundSums_83 v1 v2 v3 v4 v5 (f_Books_boundSums_25 v1 v2 v3 v4 n) D
        else
          if 0 ≤ v5 ∧ v5 < 10 then
          if 0 ≤ v5 ∧ v5 < 10 then
          if 0 ≤ v5 ∧ v5 < 10 then
          if 0 ≤ v3 ∧ v3 < 6 then
          zb (f_Books_boundSum (D (v1 + 11) v5) (D (v1 + 10) v5) (D (v2 + 2 + v5) v3) v4 D) fun _ D3 =>
          f_Books_boundSums_83 v1 v2 v3 v4 v5 (f_Books_boundSums_25 v1 v2 v3 v4 n) D3 else none else none else none else none
      else
        f_Books_boundSums_83 v1 v2 v3 v4 v5 (f_Books_boundSums_25 v1 v2 v3 v4 n) D else none
def f_Books_boundSums (v1 v2 v3 v4 : Int) (D : Mm) : Option (Int × Mm) :=
  zb (f_Arrays_fill 7 16 0 D) fun _ D2 =>
  zb (f_Arrays_fill 8 16 36 D2) fun _ D4 =>
  zst D4 6 3 0 fun D5 =>
  f_Books_boundSums_25 v1 v2 v3 v4 zF 0 D5
def f_Books_isFree (v1 : Int) (D : Mm) : Option (Int) :=
  if zI (jand (jshr (D 6 3) v1) 1) = 0 then
    some 1
  else
    some 0
def f_Books_greatestOf_20 (v2 : Int)  (D : Mm) : Nat → Int → Int → Option (Int)
  | 0, _, _ => none
  | n + 1, v3, v4 =>
    if zI v2 ≤ zI v4 then
      some v3
    else
      if 0 ≤ jor v4 v2 ∧ jor v4 v2 < 16 then
      if 0 ≤ v4 ∧ v4 < 16 then
      (f_Math_min v3 ((D 8 (jor v4 v2)) - (D 9 v4)) D).bind fun r1 =>
      f_Books_greatestOf_20 v2 D n r1 (v4 + 1) else none else none
def f_Books_greatestOf (v1 : Int) (D : Mm) : Option (Int) :=
  (f_Books_isFree v1 D).bind fun r1 =>
  if zI r1 = 0 then
    f_Books_greatestOf_20 (jshl 1 v1) D zF 9 0
  else
    some 0
def f_Books_leastOf_9 (v2 : Int)  (D : Mm) : Nat → Int → Int → Option (Int)
  | 0, _, _ => none
  | n + 1, v3, v4 =>
    if zI v2 ≤ zI v4 then
      some v3
    else
      if 0 ≤ jor v4 v2 ∧ jor v4 v2 < 16 then
      if 0 ≤ v4 ∧ v4 < 16 then
      (f_Math_max v3 ((D 7 (jor v4 v2)) - (D 9 v4)) D).bind fun r1 =>
      f_Books_leastOf_9 v2 D n r1 (v4 + 1) else none else none
def f_Books_leastOf (v1 : Int) (D : Mm) : Option (Int) :=
  f_Books_leastOf_9 (jshl 1 v1) D zF 0 0
def f_Books_addStep_7 (v2 v3 : Int)  : Nat → Int → Mm → Option (Int × Mm)
  | 0, _, _ => none
  | n + 1, v4, D =>
    if zI v3 ≤ zI v4 then
      some (0, D)
    else
      if 0 ≤ v4 ∧ v4 < 16 then
      if 0 ≤ jor v4 v3 ∧ jor v4 v3 < 16 then (zst D 9 (jor v4 v3) ((D 9 v4) + v2) fun D1 =>
      f_Books_addStep_7 v2 v3 n (v4 + 1) D1) else none else none
def f_Books_addStep (v1 v2 : Int) (D : Mm) : Option (Int × Mm) :=
  f_Books_addStep_7 v2 (jshl 1 v1) zF 0 D
def f_Books_noteRange_95 (s0 s1 : Int)  (D : Mm) : Option (Int × Mm) :=
  (f_Math_max s1 s0 D).bind fun r1 =>
  zst D 6 6 r1 fun D2 =>
  some (0, D2)
def f_Books_noteRange_70 (v2 v5 v6 s0 s1 : Int)  (D : Mm) : Option (Int × Mm) :=
  (f_Math_min s1 s0 D).bind fun r1 =>
  zst D 6 5 r1 fun D2 =>
  if zI v5 = 0 then
    f_Books_noteRange_95 v6 (D2 6 6) D2
  else
    f_Books_noteRange_95 (v6 + v2) (D2 6 6) D2
def f_Books_noteRange_36 (v1 v2 v3 v4 s0 : Int)  (D : Mm) : Option (Int × Mm) :=
  if 0 ≤ jand v3 (jxor v4 (-1)) ∧ jand v3 (jxor v4 (-1)) < 16 then
  if zI s0 = 0 then
    f_Books_noteRange_70 v2 s0 (D 9 (jand v3 (jxor v4 (-1)))) (D 9 (jand v3 (jxor v4 (-1)))) (D 6 5) D
  else
    f_Books_noteRange_70 v2 s0 (D 9 (jand v3 (jxor v4 (-1)))) ((D 9 (jand v3 (jxor v4 (-1)))) + v1) (D 6 5) D else none
def f_Books_noteRange (v1 v2 v3 : Int) (D : Mm) : Option (Int × Mm) :=
  if zI v1 ≤ zI v2 then
    zst D 6 4 ((D 6 4) + ((v2 - v1) + 1)) fun D1 =>
    if zI (jand v3 8) = 0 then
      f_Books_noteRange_36 v1 v2 v3 8 0 D1
    else
      f_Books_noteRange_36 v1 v2 v3 8 1 D1
  else
    some (0, D)
def f_Books_noteFreeSteps_43 (v1 v2 : Int) (K2 : Int → Mm → Option (Int × Mm)) (D : Mm) : Option (Int × Mm) :=
  K2 (v2 + 1) D
def f_Books_noteFreeSteps_2 (v1 : Int)  : Nat → Int → Mm → Option (Int × Mm)
  | 0, _, _ => none
  | n + 1, v2, D =>
    if zI 4 ≤ zI v2 then
      some (0, D)
    else
      (f_Books_isFree v2 D).bind fun r1 =>
      if zI r1 = 0 then
        f_Books_noteFreeSteps_43 v1 v2 (f_Books_noteFreeSteps_2 v1 n) D
      else
        zst D 6 4 ((D 6 4) * 10) fun D2 =>
        zst D2 6 6 ((D2 6 6) + ((jand (jshr v1 v2) 1) * 9)) fun D3 =>
        f_Books_noteFreeSteps_43 v1 v2 (f_Books_noteFreeSteps_2 v1 n) D3
def f_Books_noteFreeSteps (v1 : Int) (D : Mm) : Option (Int × Mm) :=
  f_Books_noteFreeSteps_2 v1 zF 0 D
def f_Books_search_105 (v5 v6 v7 v8 v9 v10 : Int) (K44 : Int → Mm → Option (Int × Mm))  : Nat → Int → Mm → Option (Int × Mm)
  | 0, _, _ => none
  | n + 1, v11, D =>
    if zI v10 < zI v11 then
      K44 (v9 + 1) D
    else
      zb (f_Books_addStep 2 v11 D) fun _ D2 =>
      (f_Books_leastOf 3 D2).bind fun r3 =>
      (f_Books_greatestOf 3 D2).bind fun r4 =>
      zb (f_Books_noteRange r3 r4 v5 D2) fun _ D6 =>
      f_Books_search_105 v5 v6 v7 v8 v9 v10 K44 n (v11 + 1) D6
def f_Books_search_77 (v5 v6 v7 v8 : Int) (K29 : Int → Mm → Option (Int × Mm))  : Nat → Int → Mm → Option (Int × Mm)
  | 0, _, _ => none
  | n + 1, v9, D =>
    if zI v8 < zI v9 then
      K29 (v7 + 1) D
    else
      zb (f_Books_addStep 1 v9 D) fun _ D2 =>
      (f_Books_greatestOf 2 D2).bind fun r3 =>
      (f_Books_leastOf 2 D2).bind fun r4 =>
      f_Books_search_105 v5 v6 v7 v8 v9 r3 (f_Books_search_77 v5 v6 v7 v8 K29 n) zF r4 D2
def f_Books_search_49 (v5 v6 : Int)  : Nat → Int → Mm → Option (Int × Mm)
  | 0, _, _ => none
  | n + 1, v7, D =>
    if zI v6 < zI v7 then
      zb (f_Books_noteFreeSteps v5 D) fun _ D2 =>
      some (0, D2)
    else
      zb (f_Books_addStep 0 v7 D) fun _ D4 =>
      (f_Books_greatestOf 1 D4).bind fun r5 =>
      (f_Books_leastOf 1 D4).bind fun r6 =>
      f_Books_search_77 v5 v6 v7 r5 (f_Books_search_49 v5 v6 n) zF r6 D4
def f_Books_search (v1 v2 v3 v4 v5 : Int) (D : Mm) : Option (Int × Mm) :=
  zst D 6 4 0 fun D1 =>
  zst D1 6 5 37 fun D2 =>
  zst D2 6 6 (-1) fun D3 =>
  zb (f_Books_boundSums v1 v2 v3 v4 D3) fun _ D5 =>
  if zI (D5 7 0) ≤ 0 then
    (f_Books_greatestOf 0 D5).bind fun r6 =>
    (f_Books_leastOf 0 D5).bind fun r7 =>
    f_Books_search_49 v5 r6 zF r7 D5
  else
    some (0, D5)
def f_Main_books_55 (v3 v4 s0 s1 s2 s4 : Int)  (D : Mm) : Option (Int × Mm) :=
  zb (f_Books_search s4 12 s2 s1 s0 D) fun _ D2 =>
  if zI v3 = zI (-1) then
    some (D2 6 4, D2)
  else
    if zI (D2 6 4) = 0 then
      some ((-4), D2)
    else
      if zI v4 = 0 then
        some (D2 6 5, D2)
      else
        some (D2 6 6, D2)
def f_Main_books (v1 v2 v3 v4 : Int) (D : Mm) : Option (Int × Mm) :=
  if D 1 7 = 32 ∨ D 1 7 = 69 then
  (f_Quern_hasSort (D 1 7) v1 D).bind fun r1 =>
  if zI r1 = 0 then
    some ((-1), D)
  else
    (f_Main_isDoubt v2 D).bind fun r2 =>
    if zI r2 = 0 then
      some ((-1), D)
    else
      (f_Main_within v3 (-1) 3 D).bind fun r3 =>
      if zI r3 = 0 then
        some ((-1), D)
      else
        if D 1 7 = 32 ∨ D 1 7 = 69 then
        if zI v3 = zI (-1) then
          f_Main_books_55 v3 v4 0 v2 v1 (D 1 7) D
        else
          f_Main_books_55 v3 v4 (jshl 1 v3) v2 v1 (D 1 7) D else none else none
def f_Main_groundOn_61 (v1 v2 s0 : Int)  (D : Mm) : Option (Int × Mm) :=
  if 0 ≤ v1 ∧ v1 < 10 then
  if 0 ≤ v2 ∧ v2 < 6 then
  if D 1 7 = 32 ∨ D 1 7 = 69 then
  if 0 ≤ v1 ∧ v1 < 10 then
  (f_Math_max 0 ((D (12 + 2 + v1) v2) - (s0 * (D ((D 1 7) + 10) v1))) D).bind fun r1 =>
  some (r1, D) else none else none else none else none
def f_Main_groundOn (v1 v2 v3 v4 : Int) (D : Mm) : Option (Int × Mm) :=
  if D 1 7 = 32 ∨ D 1 7 = 69 then
  if D 1 7 = 32 ∨ D 1 7 = 69 then
  if 0 ≤ v1 ∧ v1 < 10 then
  zb (f_Books_search (D 1 7) 12 v2 v3 (D ((D 1 7) + 11) v1) D) fun _ D2 =>
  if zI (D2 6 4) = 0 then
    some ((-4), D2)
  else
    if zI v4 = 0 then
      f_Main_groundOn_61 v1 v2 (D2 6 6) D2
    else
      f_Main_groundOn_61 v1 v2 (D2 6 5) D2 else none else none else none
def f_Main_ground (v1 v2 v3 v4 : Int) (D : Mm) : Option (Int × Mm) :=
  if D 1 7 = 32 ∨ D 1 7 = 69 then
  (f_Quern_hasPatch (D 1 7) v1 D).bind fun r1 =>
  if zI r1 = 0 then
    some ((-1), D)
  else
    if D 1 7 = 32 ∨ D 1 7 = 69 then
    (f_Quern_hasSort (D 1 7) v2 D).bind fun r2 =>
    if zI r2 = 0 then
      some ((-1), D)
    else
      (f_Main_isDoubt v3 D).bind fun r3 =>
      if zI r3 = 0 then
        some ((-1), D)
      else
        zb (f_Main_groundOn v1 v2 v3 v4 D) fun r4 D5 =>
        some (r4, D5) else none else none
def f_Main_surelyGround_36 (v1 v2 v3 v4 : Int) (K4 : Int → Int → Mm → Option (Int × Mm)) (D : Mm) : Option (Int × Mm) :=
  K4 v3 (v4 + 1) D
def f_Main_surelyGround_5 (v1 v2 : Int)  : Nat → Int → Int → Mm → Option (Int × Mm)
  | 0, _, _, _ => none
  | n + 1, v3, v4, D =>
    if D 1 7 = 32 ∨ D 1 7 = 69 then
    if zI (D (D 1 7) 0) ≤ zI v4 then
      some (v3, D)
    else
      zb (f_Main_groundOn v1 v4 v2 0 D) fun r1 D2 =>
      if zI r1 ≤ 0 then
        f_Main_surelyGround_36 v1 v2 v3 v4 (f_Main_surelyGround_5 v1 v2 n) D2
      else
        f_Main_surelyGround_36 v1 v2 (jor v3 (jshl 1 v4)) v4 (f_Main_surelyGround_5 v1 v2 n) D2 else none
def f_Main_surelyGround (v1 v2 : Int) (D : Mm) : Option (Int × Mm) :=
  f_Main_surelyGround_5 v1 v2 zF 0 0 D
def f_Main_sure (v1 v2 : Int) (D : Mm) : Option (Int × Mm) :=
  if D 1 7 = 32 ∨ D 1 7 = 69 then
  (f_Quern_hasPatch (D 1 7) v1 D).bind fun r1 =>
  if zI r1 = 0 then
    some ((-1), D)
  else
    (f_Main_isDoubt v2 D).bind fun r2 =>
    if zI r2 = 0 then
      some ((-1), D)
    else
      zb (f_Main_surelyGround v1 v2 D) fun r3 D4 =>
      some (r3, D4) else none
def f_Quern_hoursSaved_26 (v0 v1 v2 v3 : Int) (K4 : Int → Int → Option (Int)) (D : Mm) : Option (Int) :=
  K4 v2 (v3 + 1)
def f_Quern_hoursSaved_4 (v0 v1 : Int)  (D : Mm) : Nat → Int → Int → Option (Int)
  | 0, _, _ => none
  | n + 1, v2, v3 =>
    if zI 4 ≤ zI v3 then
      some v2
    else
      if zI (jand (jshr v1 v3) 1) = 0 then
        f_Quern_hoursSaved_26 v0 v1 v2 v3 (f_Quern_hoursSaved_4 v0 v1 D n) D
      else
        if 0 ≤ v3 ∧ v3 < 4 then
        f_Quern_hoursSaved_26 v0 v1 (v2 + (D (v0 + 29) v3)) v3 (f_Quern_hoursSaved_4 v0 v1 D n) D else none
def f_Quern_hoursSaved (v0 v1 : Int) (D : Mm) : Option (Int) :=
  f_Quern_hoursSaved_4 v0 v1 D zF 0 0
def f_Quern_grainsWithout_50 (v0 v1 v2 v3 : Int) (K4 : Int → Int → Option (Int)) (D : Mm) : Option (Int) :=
  K4 v2 (v3 + 1)
def f_Quern_grainsWithout_23 (v0 v1 v3 : Int) (K4 : Int → Int → Option (Int))  (D : Mm) : Nat → Int → Int → Option (Int)
  | 0, _, _ => none
  | n + 1, v2, v4 =>
    if zI (D v0 0) ≤ zI v4 then
      f_Quern_grainsWithout_50 v0 v1 v2 v3 K4 D
    else
      if 0 ≤ v3 ∧ v3 < 4 then
      if 0 ≤ v4 ∧ v4 < 6 then
      f_Quern_grainsWithout_23 v0 v1 v3 K4 D n (v2 + (D (v0 + 24 + v3) v4)) (v4 + 1) else none else none
def f_Quern_grainsWithout_4 (v0 v1 : Int)  (D : Mm) : Nat → Int → Int → Option (Int)
  | 0, _, _ => none
  | n + 1, v2, v3 =>
    if zI 4 ≤ zI v3 then
      some v2
    else
      if zI (jand (jshr v1 v3) 1) = 0 then
        f_Quern_grainsWithout_23 v0 v1 v3 (f_Quern_grainsWithout_4 v0 v1 D n) D zF v2 0
      else
        f_Quern_grainsWithout_50 v0 v1 v2 v3 (f_Quern_grainsWithout_4 v0 v1 D n) D
def f_Quern_grainsWithout (v0 v1 : Int) (D : Mm) : Option (Int) :=
  f_Quern_grainsWithout_4 v0 v1 D zF 0 0
def f_Quern_bestLeftOut_64 (v0 v1 v2 v3 v4 : Int) (K6 : Int → Int → Int → Option (Int)) (D : Mm) : Option (Int) :=
  K6 v2 v3 (v4 + 1)
def f_Quern_bestLeftOut_58 (v0 v1 v4 v5 : Int) (K6 : Int → Int → Int → Option (Int)) (D : Mm) : Option (Int) :=
  f_Quern_bestLeftOut_64 v0 v1 v4 v5 v4 K6 D
def f_Quern_bestLeftOut_8 (v0 v1 : Int)  (D : Mm) : Nat → Int → Int → Int → Option (Int)
  | 0, _, _, _ => none
  | n + 1, v2, v3, v4 =>
    if zI 16 ≤ zI v4 then
      some v2
    else
      if zI (jand v4 (D v0 11)) = 0 then
        (f_Quern_hoursSaved v0 v4 D).bind fun r1 =>
        if zI v1 ≤ zI r1 then
          (f_Quern_grainsWithout v0 v4 D).bind fun r2 =>
          if zI v2 = zI (-4) then
            f_Quern_bestLeftOut_58 v0 v1 v4 r2 (f_Quern_bestLeftOut_8 v0 v1 D n) D
          else
            if zI v3 ≤ zI r2 then
              f_Quern_bestLeftOut_64 v0 v1 v2 v3 v4 (f_Quern_bestLeftOut_8 v0 v1 D n) D
            else
              f_Quern_bestLeftOut_58 v0 v1 v4 r2 (f_Quern_bestLeftOut_8 v0 v1 D n) D
        else
          f_Quern_bestLeftOut_64 v0 v1 v2 v3 v4 (f_Quern_bestLeftOut_8 v0 v1 D n) D
      else
        f_Quern_bestLeftOut_64 v0 v1 v2 v3 v4 (f_Quern_bestLeftOut_8 v0 v1 D n) D
def f_Quern_bestLeftOut (v0 v1 : Int) (D : Mm) : Option (Int) :=
  f_Quern_bestLeftOut_8 v0 v1 D zF (-4) 0 0
def f_Main_leave (v1 v2 : Int) (D : Mm) : Option (Int) :=
  (f_Main_within v1 0 399 D).bind fun r1 =>
  if zI r1 = 0 then
    some (-1)
  else
    (f_Main_within v2 0 1 D).bind fun r2 =>
    if zI r2 = 0 then
      some (-1)
    else
      if D 1 7 = 32 ∨ D 1 7 = 69 then
      (f_Quern_bestLeftOut (D 1 7) v1 D).bind fun r3 =>
      if zI r3 = zI (-4) then
        some r3
      else
        if zI v2 = 0 then
          some r3
        else
          if D 1 7 = 32 ∨ D 1 7 = 69 then
          (f_Quern_grainsWithout (D 1 7) r3 D).bind fun r4 =>
          some r4 else none else none
def f_Finds_tellBlind (v0 v1 v2 : Int) (D : Mm) : Option (Int × Mm) :=
  if 0 ≤ v1 ∧ v1 < 6 then
  if 0 ≤ v2 ∧ v2 < 6 then
  if 0 ≤ v2 ∧ v2 < 6 then (zst D (v0 + 13 + v1) v2 ((D (v0 + 13 + v1) v2) + 1) fun D1 =>
  zst D1 v0 3 ((D1 v0 3) + 1) fun D2 =>
  if 0 ≤ v1 ∧ v1 < 6 then
  if 0 ≤ v2 ∧ v2 < 6 then
  some (D2 (v0 + 13 + v1) v2, D2) else none else none) else none else none else none
def f_Main_blind (v1 v2 : Int) (D : Mm) : Option (Int × Mm) :=
  if D 1 7 = 32 ∨ D 1 7 = 69 then
  (f_Quern_hasSort (D 1 7) v1 D).bind fun r1 =>
  if zI r1 = 0 then
    some ((-1), D)
  else
    if D 1 7 = 32 ∨ D 1 7 = 69 then
    (f_Quern_hasSort (D 1 7) v2 D).bind fun r2 =>
    if zI r2 = 0 then
      some ((-1), D)
    else
      if zI (D 12 3) < zI 200 then
        zb (f_Finds_tellBlind 12 v1 v2 D) fun r3 D4 =>
        some (r3, D4)
      else
        some ((-3), D) else none else none
def f_Finds_blindThatWere_4 (v0 v1 : Int)  (D : Mm) : Nat → Int → Int → Option (Int)
  | 0, _, _ => none
  | n + 1, v2, v3 =>
    if zI 6 ≤ zI v3 then
      some v2
    else
      if 0 ≤ v1 ∧ v1 < 6 then
      if 0 ≤ v3 ∧ v3 < 6 then
      f_Finds_blindThatWere_4 v0 v1 D n (v2 + (D (v0 + 13 + v1) v3)) (v3 + 1) else none else none
def f_Finds_blindThatWere (v0 v1 : Int) (D : Mm) : Option (Int) :=
  f_Finds_blindThatWere_4 v0 v1 D zF 0 0
def f_Main_slips (v1 v2 v3 : Int) (D : Mm) : Option (Int) :=
  if D 1 7 = 32 ∨ D 1 7 = 69 then
  (f_Quern_hasSort (D 1 7) v1 D).bind fun r1 =>
  if zI r1 = 0 then
    some (-1)
  else
    if D 1 7 = 32 ∨ D 1 7 = 69 then
    (f_Quern_hasSort (D 1 7) v2 D).bind fun r2 =>
    if zI r2 = 0 then
      some (-1)
    else
      (f_Main_within v3 0 1 D).bind fun r3 =>
      if zI r3 = 0 then
        some (-1)
      else
        (f_Finds_blindThatWere 12 v1 D).bind fun r4 =>
        if zI r4 = 0 then
          some (-4)
        else
          if 0 ≤ v1 ∧ v1 < 6 then
          if 0 ≤ v2 ∧ v2 < 6 then
          (f_Odds_inLowestTerms (wI (D (12 + 13 + v1) v2)) (wI r4) v3 D).bind fun r5 =>
          some r5 else none else none else none else none
def f_Finds_blindCalled_4 (v0 v1 : Int)  (D : Mm) : Nat → Int → Int → Option (Int)
  | 0, _, _ => none
  | n + 1, v2, v3 =>
    if zI 6 ≤ zI v3 then
      some v2
    else
      if 0 ≤ v3 ∧ v3 < 6 then
      if 0 ≤ v1 ∧ v1 < 6 then
      f_Finds_blindCalled_4 v0 v1 D n (v2 + (D (v0 + 13 + v3) v1)) (v3 + 1) else none else none
def f_Finds_blindCalled (v0 v1 : Int) (D : Mm) : Option (Int) :=
  f_Finds_blindCalled_4 v0 v1 D zF 0 0
def f_Main_lean (v1 : Int) (D : Mm) : Option (Int) :=
  if D 1 7 = 32 ∨ D 1 7 = 69 then
  (f_Quern_hasSort (D 1 7) v1 D).bind fun r1 =>
  if zI r1 = 0 then
    some (-1000)
  else
    (f_Finds_blindCalled 12 v1 D).bind fun r2 =>
    (f_Finds_blindThatWere 12 v1 D).bind fun r3 =>
    some (r2 - r3) else none
def f_Main_right (v1 v2 : Int) (D : Mm) : Option (Int) :=
  if D 1 7 = 32 ∨ D 1 7 = 69 then
  (f_Quern_hasSort (D 1 7) v1 D).bind fun r1 =>
  if zI r1 = 0 then
    some (-1)
  else
    (f_Main_within v2 0 999 D).bind fun r2 =>
    if zI r2 = 0 then
      some (-1)
    else
      (f_Finds_blindCalled 12 v1 D).bind fun r3 =>
      if zI r3 = 0 then
        some (-4)
      else
        (f_Finds_blindThatWere 12 v1 D).bind fun r4 =>
        if zI r3 = 0 then none else
        some (jdiv (v2 * r4) r3) else none
def f_Main_teeth (v1 : Int) (D : Mm) : Option (Int × Mm) :=
  if D 1 7 = 32 ∨ D 1 7 = 69 then
  (f_Main_within v1 0 ((jshl 1 (D (D 1 7) 0)) - 1) D).bind fun r1 =>
  if zI r1 = 0 then
    some ((-1), D)
  else
    zst D 12 4 v1 fun D2 =>
    some (D 12 4, D2) else none
def f_Main_eaten (v1 v2 : Int) (D : Mm) : Option (Int × Mm) :=
  if D 1 7 = 32 ∨ D 1 7 = 69 then
  (f_Quern_hasPatch (D 1 7) v1 D).bind fun r1 =>
  if zI r1 = 0 then
    some ((-1), D)
  else
    (f_Main_isDoubt v2 D).bind fun r2 =>
    if zI r2 = 0 then
      some ((-1), D)
    else
      zb (f_Main_surelyGround v1 v2 D) fun r3 D4 =>
      some (jand r3 (D4 12 4), D4) else none
def f_Main_readAreaOf_63 (v1 v2 v3 : Int) (K4 : Int → Int → Option (Int)) (D : Mm) : Option (Int) :=
  K4 v2 (v3 + 1)
def f_Main_readAreaOf_4 (v1 : Int)  (D : Mm) : Nat → Int → Int → Option (Int)
  | 0, _, _ => none
  | n + 1, v2, v3 =>
    if D 1 7 = 32 ∨ D 1 7 = 69 then
    if zI (D (D 1 7) 1) ≤ zI v3 then
      some v2
    else
      if D 1 7 = 32 ∨ D 1 7 = 69 then
      if 0 ≤ v3 ∧ v3 < 10 then
      if zI (D ((D 1 7) + 8) v3) = zI v1 then
        if D 1 7 = 32 ∨ D 1 7 = 69 then
        if 0 ≤ v3 ∧ v3 < 10 then
        if zI (D ((D 1 7) + 9) v3) = 0 then
          f_Main_readAreaOf_63 v1 v2 v3 (f_Main_readAreaOf_4 v1 D n) D
        else
          (f_Finds_isRead 12 v3 D).bind fun r1 =>
          if zI r1 = 0 then
            f_Main_readAreaOf_63 v1 v2 v3 (f_Main_readAreaOf_4 v1 D n) D
          else
            if D 1 7 = 32 ∨ D 1 7 = 69 then
            if 0 ≤ v3 ∧ v3 < 10 then
            f_Main_readAreaOf_63 v1 (v2 + (D ((D 1 7) + 10) v3)) v3 (f_Main_readAreaOf_4 v1 D n) D else none else none else none else none
      else
        f_Main_readAreaOf_63 v1 v2 v3 (f_Main_readAreaOf_4 v1 D n) D else none else none else none
def f_Main_readAreaOf (v1 : Int) (D : Mm) : Option (Int) :=
  f_Main_readAreaOf_4 v1 D zF 0 0
def f_Main_next_70 (v1 v2 v3 : Int) (K6 : Int → Int → Int → Option (Int)) (D : Mm) : Option (Int) :=
  K6 v1 v2 (v3 + 1)
def f_Main_next_7  (D : Mm) : Nat → Int → Int → Int → Option (Int)
  | 0, _, _, _ => none
  | n + 1, v1, v2, v3 =>
    if D 1 7 = 32 ∨ D 1 7 = 69 then
    if zI (D (D 1 7) 1) ≤ zI v3 then
      some v1
    else
      if D 1 7 = 32 ∨ D 1 7 = 69 then
      if 0 ≤ v3 ∧ v3 < 10 then
      if zI (D ((D 1 7) + 9) v3) = 0 then
        (f_Finds_isRead 12 v3 D).bind fun r1 =>
        if zI r1 = 0 then
          if D 1 7 = 32 ∨ D 1 7 = 69 then
          if 0 ≤ v3 ∧ v3 < 10 then
          (f_Main_readAreaOf (D ((D 1 7) + 8) v3) D).bind fun r2 =>
          if zI r2 ≤ zI v2 then
            f_Main_next_70 v1 v2 v3 (f_Main_next_7 D n) D
          else
            f_Main_next_70 v3 r2 v3 (f_Main_next_7 D n) D else none else none
        else
          f_Main_next_70 v1 v2 v3 (f_Main_next_7 D n) D
      else
        f_Main_next_70 v1 v2 v3 (f_Main_next_7 D n) D else none else none else none
def f_Main_next (D : Mm) : Option (Int) :=
  f_Main_next_7 D zF (-4) (-1) 0
def f_Finds_copyFrom_35 (v0 v1 : Int)  : Nat → Int → Mm → Option (Int × Mm)
  | 0, _, _ => none
  | n + 1, v2, D =>
    if zI 6 ≤ zI v2 then
      zst D v0 2 (D v1 2) fun D1 =>
      zst D1 v0 3 (D1 v1 3) fun D2 =>
      zst D2 v0 4 (D2 v1 4) fun D3 =>
      some (0, D3)
    else
      if 0 ≤ v2 ∧ v2 < 6 then
      if 0 ≤ v2 ∧ v2 < 6 then
      zcp D (v1 + 13 + v2) 0 (v0 + 13 + v2) 0 6 fun D4 =>
      f_Finds_copyFrom_35 v0 v1 n (v2 + 1) D4 else none else none
def f_Finds_copyFrom_2 (v0 v1 : Int)  : Nat → Int → Mm → Option (Int × Mm)
  | 0, _, _ => none
  | n + 1, v2, D =>
    if zI 10 ≤ zI v2 then
      f_Finds_copyFrom_35 v0 v1 zF 0 D
    else
      if 0 ≤ v2 ∧ v2 < 10 then
      if 0 ≤ v2 ∧ v2 < 10 then
      zcp D (v1 + 2 + v2) 0 (v0 + 2 + v2) 0 6 fun D1 =>
      f_Finds_copyFrom_2 v0 v1 n (v2 + 1) D1 else none else none
def f_Finds_copyFrom (v0 v1 : Int) (D : Mm) : Option (Int × Mm) :=
  f_Finds_copyFrom_2 v0 v1 zF 0 D
def f_Main_keep (D : Mm) : Option (Int × Mm) :=
  if zI (D 1 6) < zI 2 then
    if 0 ≤ D 1 6 ∧ D 1 6 < 2 then
    zb (f_Finds_copyFrom (106 + 19 * (D 1 6)) 12 D) fun _ D2 =>
    zst D2 1 6 ((D2 1 6) + 1) fun D3 =>
    some (D3 1 6, D3) else none
  else
    some ((-3), D)
def f_Main_back (D : Mm) : Option (Int × Mm) :=
  if zI (D 1 6) = 0 then
    some ((-2), D)
  else
    zst D 1 6 ((D 1 6) - 1) fun D1 =>
    if 0 ≤ D1 1 6 ∧ D1 1 6 < 2 then
    zb (f_Finds_copyFrom 12 (106 + 19 * (D1 1 6)) D1) fun _ D3 =>
    some (D3 1 6, D3) else none
def f_Main_size (v1 : Int) (D : Mm) : Option (Int) :=
  if zI v1 = zI 0 then
    if D 1 7 = 32 ∨ D 1 7 = 69 then
    some (D (D 1 7) 0) else none
  else
  if zI v1 = zI 1 then
    if D 1 7 = 32 ∨ D 1 7 = 69 then
    some (D (D 1 7) 1) else none
  else
  if zI v1 = zI 2 then
    some (D 2 1)
  else
  if zI v1 = zI 3 then
    some (D 12 3)
  else
  if zI v1 = zI 4 then
    some (D 1 6)
  else
  if zI v1 = zI 5 then
    (f_Integer_bitCount (D 12 2) D).bind fun r1 =>
    some r1
  else
    some (-1)
def f_Model_in (v0 v2 v4 : Int) (D : Mm) : Option (Int) :=
  if zL v0 < zL v2 then
    some 0
  else
    if zL v4 < zL v0 then
      some 0
    else
      some 1
def f_Model_has (v0 v1 : Int) (D : Mm) : Option (Int) :=
  if zI (jand (jshr v0 v1) 1) = zI 1 then
    some 1
  else
    some 0
def f_Model_noStones_114 (v1 : Int)  : Nat → Int → Mm → Option (Int × Mm)
  | 0, _, _ => none
  | n + 1, v2, D =>
    if zI 36 ≤ zI v2 then
      some (0, D)
    else
      if 0 ≤ (36 * v1) + v2 ∧ (36 * v1) + v2 < 72 then (zst D 158 ((36 * v1) + v2) 0 fun D1 =>
      f_Model_noStones_114 v1 n (v2 + 1) D1) else none
def f_Model_noStones_68 (v1 : Int)  : Nat → Int → Mm → Option (Int × Mm)
  | 0, _, _ => none
  | n + 1, v2, D =>
    if zI 4 ≤ zI v2 then
      f_Model_noStones_114 v1 zF 0 D
    else
      if 0 ≤ (4 * v1) + v2 ∧ (4 * v1) + v2 < 8 then (zst D 155 ((4 * v1) + v2) 0 fun D1 =>
      if 0 ≤ (4 * v1) + v2 ∧ (4 * v1) + v2 < 8 then (zst D1 156 ((4 * v1) + v2) 0 fun D2 =>
      if 0 ≤ (4 * v1) + v2 ∧ (4 * v1) + v2 < 8 then (zst D2 157 ((4 * v1) + v2) 0 fun D3 =>
      f_Model_noStones_68 v1 n (v2 + 1) D3) else none) else none) else none
def f_Model_noStones_42 (v1 : Int)  : Nat → Int → Mm → Option (Int × Mm)
  | 0, _, _ => none
  | n + 1, v2, D =>
    if zI 24 ≤ zI v2 then
      f_Model_noStones_68 v1 zF 0 D
    else
      if 0 ≤ (24 * v1) + v2 ∧ (24 * v1) + v2 < 48 then (zst D 154 ((24 * v1) + v2) 0 fun D1 =>
      f_Model_noStones_42 v1 n (v2 + 1) D1) else none
def f_Model_noStones_16 (v1 : Int)  : Nat → Int → Mm → Option (Int × Mm)
  | 0, _, _ => none
  | n + 1, v2, D =>
    if zI 60 ≤ zI v2 then
      f_Model_noStones_42 v1 zF 0 D
    else
      if 0 ≤ (60 * v1) + v2 ∧ (60 * v1) + v2 < 120 then (zst D 153 ((60 * v1) + v2) 0 fun D1 =>
      f_Model_noStones_16 v1 n (v2 + 1) D1) else none
def f_Model_noStones (v1 : Int) (D : Mm) : Option (Int × Mm) :=
  if 0 ≤ v1 ∧ v1 < 2 then (zst D 146 v1 0 fun D1 =>
  if 0 ≤ v1 ∧ v1 < 2 then (zst D1 148 v1 0 fun D2 =>
  f_Model_noStones_16 v1 zF 0 D2) else none) else none
def f_Model_write_34 (v2 : Int)  : Nat → Int → Mm → Option (Int × Mm)
  | 0, _, _ => none
  | n + 1, v4, D =>
    if zI v4 < 0 then
      some (D 144 0, D)
    else
      if 0 ≤ D 144 0 ∧ D 144 0 < 500 then (zst D 145 (D 144 0) (jland (jlshr v2 (8 * v4)) 255) fun D1 =>
      zst D1 144 0 ((D1 144 0) + 1) fun D2 =>
      f_Model_write_34 v2 n (v4 + (-1)) D2) else none
def f_Model_write (v1 v2 : Int) (D : Mm) : Option (Int × Mm) :=
  (f_Model_in (wI v1) 1 8 D).bind fun r1 =>
  if zI r1 = 0 then
    some ((-1), D)
  else
    if zI ((D 144 0) + v1) ≤ zI 500 then
      f_Model_write_34 v2 zF (v1 - 1) D
    else
      some ((-3), D)
def f_Model_wipe (D : Mm) : Option (Int × Mm) :=
  zst D 144 0 0 fun D1 =>
  some (D 144 0, D1)
def f_Model_byteAt (v1 : Int) (D : Mm) : Option (Int) :=
  if zI (D 144 0) ≤ zI v1 then
    some 0
  else
    if 0 ≤ v1 ∧ v1 < 500 then
    some (D 145 v1) else none
def f_Model_figures_107 (v1 v2 v4 s0 s1 : Int) (K2 : Int → Mm → Option (Int × Mm)) (D : Mm) : Option (Int × Mm) :=
  if zI s1 = zI s0 then
    if 0 ≤ v2 ∧ v2 < 4 then (zst D 163 v2 v4 fun D1 =>
    zst D1 144 20 ((D1 144 20) + 1) fun D2 =>
    K2 (v2 + 1) D2) else none
  else
    some (0, D)
def f_Model_figures_73 (v1 v2 v3 v4 : Int) (K2 : Int → Mm → Option (Int × Mm)) (D : Mm) : Option (Int × Mm) :=
  (f_Model_in (wI v3) 1 3 D).bind fun r1 =>
  if zI r1 = 0 then
    some (0, D)
  else
    (f_Model_byteAt (D 144 20) D).bind fun r2 =>
    if zI (v1 - 1) ≤ zI v2 then
      f_Model_figures_107 v1 v2 v4 59 r2 K2 D
    else
      f_Model_figures_107 v1 v2 v4 44 r2 K2 D
def f_Model_figures_12 (v1 v2 : Int) (K2 : Int → Mm → Option (Int × Mm))  : Nat → Int → Int → Mm → Option (Int × Mm)
  | 0, _, _, _ => none
  | n + 1, v3, v4, D =>
    (f_Model_byteAt (D 144 20) D).bind fun r1 =>
    (f_Model_in (wI r1) 48 57 D).bind fun r2 =>
    if zI r2 = 0 then
      f_Model_figures_73 v1 v2 v3 v4 K2 D
    else
      if zI 4 ≤ zI v3 then
        f_Model_figures_73 v1 v2 v3 v4 K2 D
      else
        (f_Model_byteAt (D 144 20) D).bind fun r3 =>
        zst D 144 20 ((D 144 20) + 1) fun D4 =>
        f_Model_figures_12 v1 v2 K2 n (v3 + 1) (((10 * v4) + r3) - 48) D4
def f_Model_figures_2 (v1 : Int)  : Nat → Int → Mm → Option (Int × Mm)
  | 0, _, _ => none
  | n + 1, v2, D =>
    if zI v1 ≤ zI v2 then
      some (1, D)
    else
      f_Model_figures_12 v1 v2 (f_Model_figures_2 v1 n) zF 0 0 D
def f_Model_figures (v1 : Int) (D : Mm) : Option (Int × Mm) :=
  f_Model_figures_2 v1 zF 0 D
def f_Model_sortItem_57 (v1 : Int)  : Nat → Int → Mm → Option (Int × Mm)
  | 0, _, _ => none
  | n + 1, v2, D =>
    if zI 4 ≤ zI v2 then
      zst D 146 1 ((D 146 1) + 1) fun D1 =>
      some (1, D1)
    else
      if 0 ≤ v2 ∧ v2 < 4 then
      if 0 ≤ (24 + (4 * v1)) + v2 ∧ (24 + (4 * v1)) + v2 < 48 then (zst D 147 ((24 + (4 * v1)) + v2) (D 163 v2) fun D2 =>
      f_Model_sortItem_57 v1 n (v2 + 1) D2) else none else none
def f_Model_sortItem (D : Mm) : Option (Int × Mm) :=
  zb (f_Model_figures 4 D) fun r1 D2 =>
  if zI r1 = 0 then
    some (0, D2)
  else
    if zI (D 146 1) = zI 6 then
      some (0, D2)
    else
      if zI ((((D2 163 0) + (D2 163 1)) + (D2 163 2)) + (D2 163 3)) = zI 100 then
        f_Model_sortItem_57 (D 146 1) zF 0 D2
      else
        some (0, D2)
def f_Model_faceItem (D : Mm) : Option (Int × Mm) :=
  zb (f_Model_figures 4 D) fun r1 D2 =>
  if zI r1 = 0 then
    some (0, D2)
  else
    if zI (D 148 1) = zI 10 then
      some (0, D2)
    else
      if zI 7 < zI (D2 163 0) then
        some (0, D2)
      else
        if zI 3 < zI (D2 163 1) then
          some (0, D2)
        else
          (f_Model_in (wI (D2 163 2)) 1 9 D2).bind fun r3 =>
          if zI r3 = 0 then
            some (0, D2)
          else
            if zI (D2 163 3) ≤ zI 15 then
              if 0 ≤ 10 + (D 148 1) ∧ 10 + (D 148 1) < 20 then (zst D2 149 (10 + (D 148 1)) (D2 163 0) fun D4 =>
              if 0 ≤ 10 + (D 148 1) ∧ 10 + (D 148 1) < 20 then (zst D4 150 (10 + (D 148 1)) (D4 163 1) fun D5 =>
              if 0 ≤ 10 + (D 148 1) ∧ 10 + (D 148 1) < 20 then (zst D5 151 (10 + (D 148 1)) (D5 163 2) fun D6 =>
              if 0 ≤ 10 + (D 148 1) ∧ 10 + (D 148 1) < 20 then (zst D6 152 (10 + (D 148 1)) (D6 163 3) fun D7 =>
              zst D7 148 1 ((D7 148 1) + 1) fun D8 =>
              some (1, D8)) else none) else none) else none) else none
            else
              some (0, D2)
def f_Model_callItem_100  (D : Mm) : Nat → Int → Int → Option (Int × Mm)
  | 0, _, _ => none
  | n + 1, v1, v2 =>
    if zI 6 ≤ zI v2 then
      if zI 100 < zI v1 then
        some (0, D)
      else
        some (1, D)
    else
      if 0 ≤ (36 + (6 * (D 163 0))) + v2 ∧ (36 + (6 * (D 163 0))) + v2 < 72 then
      f_Model_callItem_100 D n (v1 + (D 158 ((36 + (6 * (D 163 0))) + v2))) (v2 + 1) else none
def f_Model_callItem (D : Mm) : Option (Int × Mm) :=
  zb (f_Model_figures 3 D) fun r1 D2 =>
  if zI r1 = 0 then
    some (0, D2)
  else
    if zI (D2 146 1) ≤ zI (D2 163 0) then
      some (0, D2)
    else
      if zI (D2 146 1) ≤ zI (D2 163 1) then
        some (0, D2)
      else
        if zI (D2 163 0) = zI (D2 163 1) then
          some (0, D2)
        else
          if zI (D2 163 2) ≤ zI 99 then
            if 0 ≤ (36 + (6 * (D2 163 0))) + (D2 163 1) ∧ (36 + (6 * (D2 163 0))) + (D2 163 1) < 72 then (zst D2 158 ((36 + (6 * (D2 163 0))) + (D2 163 1)) (D2 163 2) fun D3 =>
            f_Model_callItem_100 D3 zF 0 0) else none
          else
            some (0, D2)
def f_Model_item (D : Mm) : Option (Int × Mm) :=
  (f_Model_byteAt (D 144 20) D).bind fun r1 =>
  zst D 144 20 ((D 144 20) + 1) fun D2 =>
  if zI r1 = zI 98 then
    zb (f_Model_figures 3 D2) fun r3 D4 =>
    if zI r3 = 0 then
      some (0, D4)
    else
      if zI 3 < zI (D4 163 0) then
        some (0, D4)
      else
        if zI (D4 146 1) ≤ zI (D4 163 1) then
          some (0, D4)
        else
          if zI (D4 163 2) ≤ zI 9 then
            if 0 ≤ (24 + (6 * (D4 163 0))) + (D4 163 1) ∧ (24 + (6 * (D4 163 0))) + (D4 163 1) < 48 then (zst D4 154 ((24 + (6 * (D4 163 0))) + (D4 163 1)) (D4 163 2) fun D5 =>
            some (1, D5)) else none
          else
            some (0, D4)
  else
  if zI r1 = zI 102 then
    zb (f_Model_faceItem D2) fun r6 D7 =>
    if r6 = 0 ∨ r6 = 1 then some (r6, D7) else none
  else
  if zI r1 = zI 103 then
    zb (f_Model_sortItem D2) fun r8 D9 =>
    if r8 = 0 ∨ r8 = 1 then some (r8, D9) else none
  else
  if zI r1 = zI 116 then
    zb (f_Model_figures 3 D2) fun r10 D11 =>
    if zI r10 = 0 then
      some (0, D11)
    else
      if zI 3 < zI (D11 163 0) then
        some (0, D11)
      else
        if zI 99 < zI (D11 163 1) then
          some (0, D11)
        else
          if zI (D11 163 2) ≤ zI 1 then
            if 0 ≤ 4 + (D11 163 0) ∧ 4 + (D11 163 0) < 8 then (zst D11 156 (4 + (D11 163 0)) (D11 163 1) fun D12 =>
            if 0 ≤ 4 + (D12 163 0) ∧ 4 + (D12 163 0) < 8 then (zst D12 157 (4 + (D12 163 0)) (D12 163 2) fun D13 =>
            some (1, D13)) else none) else none
          else
            some (0, D11)
  else
  if zI r1 = zI 117 then
    zb (f_Model_figures 3 D2) fun r14 D15 =>
    if zI r14 = 0 then
      some (0, D15)
    else
      if zI (D15 148 1) ≤ zI (D15 163 0) then
        some (0, D15)
      else
        if zI (D15 146 1) ≤ zI (D15 163 1) then
          some (0, D15)
        else
          if zI (D15 163 2) ≤ zI 60 then
            if 0 ≤ (60 + (6 * (D15 163 0))) + (D15 163 1) ∧ (60 + (6 * (D15 163 0))) + (D15 163 1) < 120 then (zst D15 153 ((60 + (6 * (D15 163 0))) + (D15 163 1)) (D15 163 2) fun D16 =>
            some (1, D16)) else none
          else
            some (0, D15)
  else
  if zI r1 = zI 119 then
    zb (f_Model_figures 2 D2) fun r17 D18 =>
    if zI r17 = 0 then
      some (0, D18)
    else
      if zI 3 < zI (D18 163 0) then
        some (0, D18)
      else
        if zI (D18 163 1) ≤ zI 99 then
          if 0 ≤ 4 + (D18 163 0) ∧ 4 + (D18 163 0) < 8 then (zst D18 155 (4 + (D18 163 0)) (D18 163 1) fun D19 =>
          some (1, D19)) else none
        else
          some (0, D18)
  else
  if zI r1 = zI 120 then
    zb (f_Model_callItem D2) fun r20 D21 =>
    if r20 = 0 ∨ r20 = 1 then some (r20, D21) else none
  else
    some (0, D2)
def f_Model_readAll_10  : Nat → Mm → Option (Int × Mm)
  | 0, _ => none
  | n + 1, D =>
    if zI (D 144 0) ≤ zI (D 144 20) then
      some ((-4), D)
    else
      zb (f_Model_item D) fun r1 D2 =>
      if zI r1 = 0 then
        some (D 144 20, D2)
      else
        f_Model_readAll_10 n D2
def f_Model_readAll (D : Mm) : Option (Int × Mm) :=
  zb (f_Model_noStones 1 D) fun _ D2 =>
  zst D2 144 20 0 fun D3 =>
  f_Model_readAll_10 zF D3
def f_Model_fault (D : Mm) : Option (Int × Mm) :=
  zb (f_Model_readAll D) fun r1 D2 =>
  some (r1, D2)
def f_Model_lay_272  : Nat → Int → Mm → Option (Int × Mm)
  | 0, _, _ => none
  | n + 1, v1, D =>
    if zI 36 ≤ zI v1 then
      zst D 162 0 0 fun D1 =>
      zst D1 144 19 0 fun D2 =>
      some (D2 148 0, D2)
    else
      if 0 ≤ 36 + v1 ∧ 36 + v1 < 72 then
      if 0 ≤ v1 ∧ v1 < 72 then (zst D 158 v1 (D 158 (36 + v1)) fun D3 =>
      if 0 ≤ v1 ∧ v1 < 108 then (zst D3 161 v1 0 fun D4 =>
      f_Model_lay_272 n (v1 + 1) D4) else none) else none else none
def f_Model_lay_217  : Nat → Int → Mm → Option (Int × Mm)
  | 0, _, _ => none
  | n + 1, v1, D =>
    if zI 4 ≤ zI v1 then
      f_Model_lay_272 zF 0 D
    else
      if 0 ≤ 4 + v1 ∧ 4 + v1 < 8 then
      if 0 ≤ v1 ∧ v1 < 8 then (zst D 155 v1 (D 155 (4 + v1)) fun D1 =>
      if 0 ≤ 4 + v1 ∧ 4 + v1 < 8 then
      if 0 ≤ v1 ∧ v1 < 8 then (zst D1 156 v1 (D1 156 (4 + v1)) fun D2 =>
      if 0 ≤ 4 + v1 ∧ 4 + v1 < 8 then
      if 0 ≤ v1 ∧ v1 < 8 then (zst D2 157 v1 (D2 157 (4 + v1)) fun D3 =>
      f_Model_lay_217 n (v1 + 1) D3) else none else none) else none else none) else none else none
def f_Model_lay_181  : Nat → Int → Mm → Option (Int × Mm)
  | 0, _, _ => none
  | n + 1, v1, D =>
    if zI 60 ≤ zI v1 then
      f_Model_lay_217 zF 0 D
    else
      if 0 ≤ 60 + v1 ∧ 60 + v1 < 120 then
      if 0 ≤ v1 ∧ v1 < 120 then (zst D 153 v1 (D 153 (60 + v1)) fun D1 =>
      if 0 ≤ v1 ∧ v1 < 180 then (zst D1 159 v1 0 fun D2 =>
      f_Model_lay_181 n (v1 + 1) D2) else none) else none else none
def f_Model_lay_100  : Nat → Int → Mm → Option (Int × Mm)
  | 0, _, _ => none
  | n + 1, v1, D =>
    if zI 10 ≤ zI v1 then
      f_Model_lay_181 zF 0 D
    else
      if 0 ≤ 10 + v1 ∧ 10 + v1 < 20 then
      if 0 ≤ v1 ∧ v1 < 20 then (zst D 149 v1 (D 149 (10 + v1)) fun D1 =>
      if 0 ≤ 10 + v1 ∧ 10 + v1 < 20 then
      if 0 ≤ v1 ∧ v1 < 20 then (zst D1 150 v1 (D1 150 (10 + v1)) fun D2 =>
      if 0 ≤ 10 + v1 ∧ 10 + v1 < 20 then
      if 0 ≤ v1 ∧ v1 < 20 then (zst D2 151 v1 (D2 151 (10 + v1)) fun D3 =>
      if 0 ≤ 10 + v1 ∧ 10 + v1 < 20 then
      if 0 ≤ v1 ∧ v1 < 20 then (zst D3 152 v1 (D3 152 (10 + v1)) fun D4 =>
      if 0 ≤ v1 ∧ v1 < 30 then (zst D4 160 v1 0 fun D5 =>
      f_Model_lay_100 n (v1 + 1) D5) else none) else none else none) else none else none) else none else none) else none else none
def f_Model_lay_56  : Nat → Int → Mm → Option (Int × Mm)
  | 0, _, _ => none
  | n + 1, v1, D =>
    if zI 24 ≤ zI v1 then
      f_Model_lay_100 zF 0 D
    else
      if 0 ≤ 24 + v1 ∧ 24 + v1 < 48 then
      if 0 ≤ v1 ∧ v1 < 48 then (zst D 147 v1 (D 147 (24 + v1)) fun D1 =>
      if 0 ≤ 24 + v1 ∧ 24 + v1 < 48 then
      if 0 ≤ v1 ∧ v1 < 48 then (zst D1 154 v1 (D1 154 (24 + v1)) fun D2 =>
      f_Model_lay_56 n (v1 + 1) D2) else none else none) else none else none
def f_Model_lay (D : Mm) : Option (Int × Mm) :=
  zb (f_Model_readAll D) fun r1 D2 =>
  if zI r1 = zI (-4) then
    if zI (D2 146 1) = 0 then
      some ((-2), D2)
    else
      if zI (D2 148 1) = 0 then
        some ((-2), D2)
      else
        zst D2 146 0 (D2 146 1) fun D3 =>
        zst D3 148 0 (D3 148 1) fun D4 =>
        f_Model_lay_56 zF 0 D4
  else
    some ((-2), D2)
def f_Model_isSort (v1 : Int) (D : Mm) : Option (Int) :=
  (f_Model_in (wI v1) 0 (wI ((D 146 0) - 1)) D).bind fun r1 =>
  if r1 = 0 ∨ r1 = 1 then some r1 else none
def f_Model_isFace (v1 : Int) (D : Mm) : Option (Int) :=
  (f_Model_in (wI v1) 0 (wI ((D 148 0) - 1)) D).bind fun r1 =>
  if r1 = 0 ∨ r1 = 1 then some r1 else none
def f_Model_face (v1 v2 : Int) (D : Mm) : Option (Int) :=
  (f_Model_isFace v1 D).bind fun r1 =>
  if zI r1 = 0 then
    some (-1)
  else
    (f_Model_in (wI v2) 0 4 D).bind fun r2 =>
    if zI r2 = 0 then
      some (-1)
    else
      if zI v2 = zI 0 then
        if 0 ≤ v1 ∧ v1 < 20 then
        some (D 149 v1) else none
      else
      if zI v2 = zI 1 then
        if 0 ≤ v1 ∧ v1 < 20 then
        some (D 150 v1) else none
      else
      if zI v2 = zI 2 then
        if 0 ≤ v1 ∧ v1 < 20 then
        some (D 151 v1) else none
      else
      if zI v2 = zI 3 then
        if 0 ≤ v1 ∧ v1 < 20 then
        some (D 152 v1) else none
      else
        if 0 ≤ v1 ∧ v1 < 30 then
        some (D 160 v1) else none
def f_Model_liesOf_97 (v1 v2 v3 v4 v5 : Int) (K16 : Int → Int → Option (Int)) (D : Mm) : Option (Int) :=
  K16 v4 (v5 + 1)
def f_Model_liesOf_94 (v1 v2 v3 v5 s0 s1 : Int) (K16 : Int → Int → Option (Int)) (D : Mm) : Option (Int) :=
  f_Model_liesOf_97 v1 v2 v3 (s1 + s0) v5 K16 D
def f_Model_liesOf_25 (v1 v2 v3 : Int)  (D : Mm) : Nat → Int → Int → Option (Int)
  | 0, _, _ => none
  | n + 1, v4, v5 =>
    if zI 4 ≤ zI v5 then
      some v4
    else
      if 0 ≤ v1 ∧ v1 < 20 then
      (f_Model_has (D 152 v1) v5 D).bind fun r1 =>
      if zI r1 = 0 then
        f_Model_liesOf_97 v1 v2 v3 v4 v5 (f_Model_liesOf_25 v1 v2 v3 D n) D
      else
        if 0 ≤ v5 ∧ v5 < 8 then
        if zI v3 = zI v5 then
          if 0 ≤ (6 * v5) + v2 ∧ (6 * v5) + v2 < 48 then
          if 0 ≤ v1 ∧ v1 < 20 then
          f_Model_liesOf_94 v1 v2 v3 v5 ((D 154 ((6 * v5) + v2)) * (D 151 v1)) (v4 - (jdiv (v4 * (D 155 v5)) 100)) (f_Model_liesOf_25 v1 v2 v3 D n) D else none else none
        else
          f_Model_liesOf_94 v1 v2 v3 v5 0 (v4 - (jdiv (v4 * (D 155 v5)) 100)) (f_Model_liesOf_25 v1 v2 v3 D n) D else none else none
def f_Model_liesOf_20 (v1 v2 v3 s0 : Int)  (D : Mm) : Option (Int) :=
  f_Model_liesOf_25 v1 v2 v3 D zF s0 0
def f_Model_liesOf (v1 v2 v3 : Int) (D : Mm) : Option (Int) :=
  if zI v3 = zI 4 then
    if 0 ≤ (6 * v1) + v2 ∧ (6 * v1) + v2 < 120 then
    f_Model_liesOf_20 v1 v2 v3 (D 153 ((6 * v1) + v2)) D else none
  else
    f_Model_liesOf_20 v1 v2 v3 0 D
def f_Model_allOf_5 (v1 v2 : Int)  (D : Mm) : Nat → Int → Int → Option (Int)
  | 0, _, _ => none
  | n + 1, v3, v4 =>
    if zI 5 ≤ zI v4 then
      some v3
    else
      (f_Model_liesOf v1 v2 v4 D).bind fun r1 =>
      f_Model_allOf_5 v1 v2 D n (v3 + r1) (v4 + 1)
def f_Model_allOf (v1 v2 : Int) (D : Mm) : Option (Int) :=
  f_Model_allOf_5 v1 v2 D zF 0 0
def f_Model_lies (v1 v2 v3 : Int) (D : Mm) : Option (Int) :=
  (f_Model_isFace v1 D).bind fun r1 =>
  if zI r1 = 0 then
    some (-1)
  else
    (f_Model_isSort v2 D).bind fun r2 =>
    if zI r2 = 0 then
      some (-1)
    else
      (f_Model_in (wI v3) (-1) 4 D).bind fun r3 =>
      if zI r3 = 0 then
        some (-1)
      else
        if 0 ≤ zI v3 then
          (f_Model_liesOf v1 v2 v3 D).bind fun r4 =>
          some r4
        else
          (f_Model_allOf v1 v2 D).bind fun r5 =>
          some r5
def f_Model_draw (v0 v1 v2 : Int) (D : Mm) : Option (Int) :=
  zlt ((((7919 * (wI v0)) + (6151 * (wI v1))) + (3571 * (wI v2))) + 1) fun x1 =>
  some (jlrem (jlrem (x1 * x1) 65521) 100)
def f_Model_calledBy_55 (v1 v2 v3 v4 : Int) (K4 : Int → Int → Option (Int)) (D : Mm) : Option (Int) :=
  K4 v3 (v4 + 1)
def f_Model_calledBy_39 (v1 v2 v4 s0 s1 : Int) (K4 : Int → Int → Option (Int)) (D : Mm) : Option (Int) :=
  if zI v4 = zI v1 then
    f_Model_calledBy_55 v1 v2 (s1 + s0) v4 K4 D
  else
    if zI (s1 + s0) ≤ zI v2 then
      f_Model_calledBy_55 v1 v2 (s1 + s0) v4 K4 D
    else
      some v4
def f_Model_calledBy_5 (v1 v2 : Int)  (D : Mm) : Nat → Int → Int → Option (Int)
  | 0, _, _ => none
  | n + 1, v3, v4 =>
    if zI (D 146 0) ≤ zI v4 then
      some v1
    else
      if zI v4 = zI v1 then
        f_Model_calledBy_39 v1 v2 v4 0 v3 (f_Model_calledBy_5 v1 v2 D n) D
      else
        if 0 ≤ (6 * v1) + v4 ∧ (6 * v1) + v4 < 72 then
        f_Model_calledBy_39 v1 v2 v4 (D 158 ((6 * v1) + v4)) v3 (f_Model_calledBy_5 v1 v2 D n) D else none
def f_Model_calledBy (v1 v2 : Int) (D : Mm) : Option (Int) :=
  f_Model_calledBy_5 v1 v2 D zF 0 0
def f_Model_read_93 (v1 v2 v3 v5 v6 v7 v8 s0 s1 : Int) (K35 : Int → Int → Int → Option (Int)) (D : Mm) : Option (Int) :=
  K35 (s1 + s0) (v5 + 1) (v8 + 1)
def f_Model_read_62 (v1 v2 v3 v6 v7 : Int) (K22 : Int → Int → Int → Option (Int))  (D : Mm) : Nat → Int → Int → Int → Option (Int)
  | 0, _, _, _ => none
  | n + 1, v4, v5, v8 =>
    if zI v7 ≤ zI v8 then
      K22 v4 v5 (v6 + 1)
    else
      (f_Model_draw v2 v5 v1 D).bind fun r1 =>
      (f_Model_calledBy v6 r1 D).bind fun r2 =>
      if zI r2 = zI v3 then
        f_Model_read_93 v1 v2 v3 v5 v6 v7 v8 1 v4 (f_Model_read_62 v1 v2 v3 v6 v7 K22 D n) D
      else
        f_Model_read_93 v1 v2 v3 v5 v6 v7 v8 0 v4 (f_Model_read_62 v1 v2 v3 v6 v7 K22 D n) D
def f_Model_read_39 (v1 v2 v3 : Int)  (D : Mm) : Nat → Int → Int → Int → Option (Int)
  | 0, _, _, _ => none
  | n + 1, v4, v5, v6 =>
    if zI (D 146 0) ≤ zI v6 then
      some v4
    else
      (f_Model_allOf v1 v6 D).bind fun r1 =>
      f_Model_read_62 v1 v2 v3 v6 r1 (f_Model_read_39 v1 v2 v3 D n) D zF v4 v5 0
def f_Model_read (v1 v2 v3 : Int) (D : Mm) : Option (Int) :=
  (f_Model_isFace v1 D).bind fun r1 =>
  if zI r1 = 0 then
    some (-1)
  else
    (f_Model_in (wI v2) 0 9999 D).bind fun r2 =>
    if zI r2 = 0 then
      some (-1)
    else
      (f_Model_isSort v3 D).bind fun r3 =>
      if zI r3 = 0 then
        some (-1)
      else
        f_Model_read_39 v1 v2 v3 D zF 0 0 0
def f_Model_power_5 (v0 v2 : Int)  (D : Mm) : Nat → Int → Int → Option (Int)
  | 0, _, _ => none
  | n + 1, v3, v5 =>
    if zI v2 ≤ zI v5 then
      some v3
    else
      f_Model_power_5 v0 v2 D n (v3 * v0) (v5 + 1)
def f_Model_power (v0 v2 : Int) (D : Mm) : Option (Int) :=
  f_Model_power_5 v0 v2 D zF 1 0
def f_Model_common_6  (D : Mm) : Nat → Int → Int → Option (Int)
  | 0, _, _ => none
  | n + 1, v4, v6 =>
    if zL v6 = zL 0 then
      some v4
    else
      if zL v6 = 0 then none else
      f_Model_common_6 D n v6 (jlrem v4 v6)
def f_Model_common (v0 v2 : Int) (D : Mm) : Option (Int) :=
  f_Model_common_6 D zF v0 v2
def f_Model_isArea (v0 : Int) (D : Mm) : Option (Int) :=
  (f_Model_in (wI v0) 1 9 D).bind fun r1 =>
  if r1 = 0 ∨ r1 = 1 then some r1 else none
def f_Model_more_111 (v1 v2 v4 v5 v6 v9 v11 s0 s1 : Int) (K39 : Int → Int → Int → Option (Int)) (D : Mm) : Option (Int) :=
  if zL (wI (v11 + 1)) = 0 then none else
  K39 (s1 + s0) (jldiv (v9 * (wI (v6 - v11))) (wI (v11 + 1))) (v11 + 1)
def f_Model_more_70 (v1 v2 v4 v5 v6 : Int)  (D : Mm) : Nat → Int → Int → Int → Option (Int)
  | 0, _, _, _ => none
  | n + 1, v7, v9, v11 =>
    if zI v6 < zI v11 then
      (f_Model_power (wI (v2 + v4)) v6 D).bind fun r1 =>
      (f_Model_common v7 r1 D).bind fun r2 =>
      if zI v5 = 0 then
        if zL r2 = 0 then none else
        some (jldiv v7 r2)
      else
        if zL r2 = 0 then none else
        some (jldiv r1 r2)
    else
      if zI v11 < zI v1 then
        f_Model_more_111 v1 v2 v4 v5 v6 v9 v11 0 v7 (f_Model_more_70 v1 v2 v4 v5 v6 D n) D
      else
        (f_Model_power (wI v2) v11 D).bind fun r3 =>
        (f_Model_power (wI v4) (v6 - v11) D).bind fun r4 =>
        f_Model_more_111 v1 v2 v4 v5 v6 v9 v11 ((v9 * r3) * r4) v7 (f_Model_more_70 v1 v2 v4 v5 v6 D n) D
def f_Model_more_52  (D : Mm) : Option (Int) :=
  some (-1)
def f_Model_more (v1 v2 v3 v4 v5 : Int) (D : Mm) : Option (Int) :=
  (f_Model_in (wI v1) 0 12 D).bind fun r1 =>
  if zI r1 = 0 then
    f_Model_more_52 D
  else
    (f_Model_isArea v2 D).bind fun r2 =>
    if zI r2 = 0 then
      f_Model_more_52 D
    else
      (f_Model_in (wI v3) 0 (wI (12 - v1)) D).bind fun r3 =>
      if zI r3 = 0 then
        f_Model_more_52 D
      else
        (f_Model_isArea v4 D).bind fun r4 =>
        if zI r4 = 0 then
          f_Model_more_52 D
        else
          (f_Model_in (wI v5) 0 1 D).bind fun r5 =>
          if zI r5 = 0 then
            f_Model_more_52 D
          else
            f_Model_more_70 v1 v2 v4 v5 (v1 + v3) D zF 0 1 0
def f_Model_isRare (v0 v1 v2 v3 : Int) (D : Mm) : Option (Int) :=
  (f_Model_power (wI v1) v0 D).bind fun r1 =>
  (f_Model_power (wI (v1 + v2)) v0 D).bind fun r2 =>
  if zL r2 < zL ((wI v3) * r1) then
    some 0
  else
    some 1
def f_Model_says_31 (v1 v2 v3 : Int)  (D : Mm) : Nat → Int → Option (Int)
  | 0, _ => none
  | n + 1, v4 =>
    if zI 12 < zI v4 then
      some (-4)
    else
      (f_Model_isRare v4 v1 v2 v3 D).bind fun r1 =>
      if zI r1 = 0 then
        f_Model_says_31 v1 v2 v3 D n (v4 + 1)
      else
        some v4
def f_Model_says (v1 v2 v3 : Int) (D : Mm) : Option (Int) :=
  (f_Model_isArea v1 D).bind fun r1 =>
  if zI r1 = 0 then
    some (-1)
  else
    (f_Model_isArea v2 D).bind fun r2 =>
    if zI r2 = 0 then
      some (-1)
    else
      (f_Model_in (wI v3) 1 1000 D).bind fun r3 =>
      if zI r3 = 0 then
        some (-1)
      else
        f_Model_says_31 v1 v2 v3 D zF 0
def f_Model_controls_36 (v1 v2 v3 : Int)  (D : Mm) : Nat → Int → Option (Int)
  | 0, _ => none
  | n + 1, v4 =>
    if zI 99 < zI v4 then
      some (-4)
    else
      (f_Model_isRare v1 v2 v4 v3 D).bind fun r1 =>
      if zI r1 = 0 then
        f_Model_controls_36 v1 v2 v3 D n (v4 + 1)
      else
        some v4
def f_Model_controls (v1 v2 v3 : Int) (D : Mm) : Option (Int) :=
  (f_Model_in (wI v1) 1 9 D).bind fun r1 =>
  if zI r1 = 0 then
    some (-1)
  else
    (f_Model_isArea v2 D).bind fun r2 =>
    if zI r2 = 0 then
      some (-1)
    else
      (f_Model_in (wI v3) 1 1000 D).bind fun r3 =>
      if zI r3 = 0 then
        some (-1)
      else
        f_Model_controls_36 v1 v2 v3 D zF 1
def f_Model_isHeap (v1 v2 v3 v4 v5 : Int) (D : Mm) : Option (Int × Mm) :=
  zst D 164 0 v1 fun D1 =>
  zst D1 164 1 v2 fun D2 =>
  zst D2 164 2 v3 fun D3 =>
  zst D3 164 3 v4 fun D4 =>
  (f_Model_in (wI v1) 0 (wI v5) D4).bind fun r5 =>
  if zI r5 = 0 then
    some (0, D4)
  else
    (f_Model_in (wI v2) 0 (wI v5) D4).bind fun r6 =>
    if zI r6 = 0 then
      some (0, D4)
    else
      (f_Model_in (wI v3) 0 (wI v5) D4).bind fun r7 =>
      if zI r7 = 0 then
        some (0, D4)
      else
        (f_Model_in (wI v4) 0 (wI v5) D4).bind fun r8 =>
        if zI r8 = 0 then
          some (0, D4)
        else
          if zI v5 < zI (((v1 + v2) + v3) + v4) then
            some (0, D4)
          else
            some (1, D4)
def f_Model_likely_5 (v1 : Int)  (D : Mm) : Nat → Int → Int → Option (Int)
  | 0, _, _ => none
  | n + 1, v2, v4 =>
    if zI 4 ≤ zI v4 then
      some v2
    else
      if 0 ≤ (4 * v1) + v4 ∧ (4 * v1) + v4 < 48 then
      if 0 ≤ v4 ∧ v4 < 4 then
      (f_Model_power (wI (D 147 ((4 * v1) + v4))) (D 164 v4) D).bind fun r1 =>
      f_Model_likely_5 v1 D n (v2 * r1) (v4 + 1) else none else none
def f_Model_likely (v1 : Int) (D : Mm) : Option (Int) :=
  f_Model_likely_5 v1 D zF 1 0
def f_Model_heap_44 (v1 v6 : Int)  (D : Mm) : Nat → Int → Int → Option (Int × Mm)
  | 0, _, _ => none
  | n + 1, v7, v9 =>
    if zI (D 146 0) ≤ zI v9 then
      if zL v7 = zL 0 then
        some ((-4), D)
      else
        (f_Model_likely v1 D).bind fun r1 =>
        (f_Model_common r1 v7 D).bind fun r2 =>
        if zI v6 = 0 then
          (f_Model_likely v1 D).bind fun r3 =>
          if zL r2 = 0 then none else
          some (jldiv r3 r2, D)
        else
          if zL r2 = 0 then none else
          some (jldiv v7 r2, D)
    else
      (f_Model_likely v9 D).bind fun r4 =>
      f_Model_heap_44 v1 v6 D n (v7 + r4) (v9 + 1)
def f_Model_heap_34  (D : Mm) : Option (Int × Mm) :=
  some ((-1), D)
def f_Model_heap (v1 v2 v3 v4 v5 v6 : Int) (D : Mm) : Option (Int × Mm) :=
  (f_Model_isSort v1 D).bind fun r1 =>
  if zI r1 = 0 then
    f_Model_heap_34 D
  else
    zb (f_Model_isHeap v2 v3 v4 v5 8 D) fun r2 D3 =>
    if zI r2 = 0 then
      f_Model_heap_34 D3
    else
      (f_Model_in (wI v6) 0 1 D3).bind fun r4 =>
      if zI r4 = 0 then
        f_Model_heap_34 D3
      else
        f_Model_heap_44 v1 v6 D3 zF 0 0
def f_Model_most_56 (v6 s0 : Int) (K14 : Int → Int → Option (Int × Mm)) (D : Mm) : Option (Int × Mm) :=
  K14 s0 (v6 + 1)
def f_Model_most_22  (D : Mm) : Nat → Int → Int → Option (Int × Mm)
  | 0, _, _ => none
  | n + 1, v5, v6 =>
    if zI (D 146 0) ≤ zI v6 then
      (f_Model_likely v5 D).bind fun r1 =>
      if zL r1 = zL 0 then
        some ((-4), D)
      else
        some (v5, D)
    else
      (f_Model_likely v6 D).bind fun r2 =>
      (f_Model_likely v5 D).bind fun r3 =>
      if zL r2 ≤ zL r3 then
        f_Model_most_56 v6 v5 (f_Model_most_22 D n) D
      else
        f_Model_most_56 v6 v6 (f_Model_most_22 D n) D
def f_Model_most (v1 v2 v3 v4 : Int) (D : Mm) : Option (Int × Mm) :=
  zb (f_Model_isHeap v1 v2 v3 v4 8 D) fun r1 D2 =>
  if zI r1 = 0 then
    some ((-1), D2)
  else
    f_Model_most_22 D2 zF 0 1
def f_Model_shares_155 (v1 v2 v7 v10 s0 : Int) (K27 : Int → Int → Int → Option (Int × Mm)) (D : Mm) : Option (Int × Mm) :=
  K27 v7 s0 (v10 + 1)
def f_Model_shares_138 (v1 v2 v8 v10 v11 s0 : Int) (K27 : Int → Int → Int → Option (Int × Mm)) (D : Mm) : Option (Int × Mm) :=
  if zL v11 ≤ zL v8 then
    f_Model_shares_155 v1 v2 s0 v10 v8 K27 D
  else
    f_Model_shares_155 v1 v2 s0 v10 v11 K27 D
def f_Model_shares_63 (v1 v2 v7 v8 v10 : Int) (K27 : Int → Int → Int → Option (Int × Mm))  (D : Mm) : Nat → Int → Int → Option (Int × Mm)
  | 0, _, _ => none
  | n + 1, v11, v13 =>
    if zI 4 ≤ zI v13 then
      if zL v11 ≤ zL v8 then
        f_Model_shares_138 v1 v2 v8 v10 v11 v7 K27 D
      else
        f_Model_shares_138 v1 v2 v8 v10 v11 v10 K27 D
    else
      if 0 ≤ (4 * v1) + v13 ∧ (4 * v1) + v13 < 48 then
      if 0 ≤ (4 * v2) + v13 ∧ (4 * v2) + v13 < 48 then
      if 0 ≤ v13 ∧ v13 < 4 then
      (f_Model_power (wI ((v10 * (D 147 ((4 * v1) + v13))) + ((10 - v10) * (D 147 ((4 * v2) + v13))))) (D 164 v13) D).bind fun r1 =>
      f_Model_shares_63 v1 v2 v7 v8 v10 K27 D n (v11 * r1) (v13 + 1) else none else none else none
def f_Model_shares_50 (v1 v2 : Int)  (D : Mm) : Nat → Int → Int → Int → Option (Int × Mm)
  | 0, _, _, _ => none
  | n + 1, v7, v8, v10 =>
    if zI 10 < zI v10 then
      some (v7, D)
    else
      f_Model_shares_63 v1 v2 v7 v8 v10 (f_Model_shares_50 v1 v2 D n) D zF 1 0
def f_Model_shares (v1 v2 v3 v4 v5 v6 : Int) (D : Mm) : Option (Int × Mm) :=
  (f_Model_isSort v1 D).bind fun r1 =>
  if zI r1 = 0 then
    some ((-1), D)
  else
    (f_Model_isSort v2 D).bind fun r2 =>
    if zI r2 = 0 then
      some ((-1), D)
    else
      if zI v1 = zI v2 then
        some ((-1), D)
      else
        zb (f_Model_isHeap v3 v4 v5 v6 6 D) fun r3 D4 =>
        if zI r3 = 0 then
          some ((-1), D4)
        else
          f_Model_shares_50 v1 v2 D4 zF 0 (-1) 0
def f_Model_apart_43 (v1 v2 v4 s0 s1 : Int) (K4 : Int → Int → Option (Int)) (D : Mm) : Option (Int) :=
  K4 (s1 + s0) (v4 + 1)
def f_Model_apart_5 (v1 v2 : Int)  (D : Mm) : Nat → Int → Int → Option (Int)
  | 0, _, _ => none
  | n + 1, v3, v4 =>
    if zI 4 ≤ zI v4 then
      some v3
    else
      if 0 ≤ (4 * v1) + v4 ∧ (4 * v1) + v4 < 48 then
      if 0 ≤ v4 ∧ v4 < 4 then
      if 0 ≤ zI ((D 147 ((4 * v1) + v4)) - (D v2 v4)) then
        f_Model_apart_43 v1 v2 v4 ((D 147 ((4 * v1) + v4)) - (D v2 v4)) v3 (f_Model_apart_5 v1 v2 D n) D
      else
        f_Model_apart_43 v1 v2 v4 (-((D 147 ((4 * v1) + v4)) - (D v2 v4))) v3 (f_Model_apart_5 v1 v2 D n) D else none else none
def f_Model_apart (v1 v2 : Int) (D : Mm) : Option (Int) :=
  f_Model_apart_5 v1 v2 D zF 0 0
def f_Model_areNear_3 (v1 v2 v3 : Int)  : Nat → Int → Mm → Option (Int × Mm)
  | 0, _, _ => none
  | n + 1, v4, D =>
    if zI 4 ≤ zI v4 then
      (f_Model_apart v1 166 D).bind fun r1 =>
      if zI v3 < zI r1 then
        some (0, D)
      else
        some (1, D)
    else
      if 0 ≤ (4 * v2) + v4 ∧ (4 * v2) + v4 < 48 then
      if 0 ≤ v4 ∧ v4 < 4 then (zst D 166 v4 (D 147 ((4 * v2) + v4)) fun D2 =>
      f_Model_areNear_3 v1 v2 v3 n (v4 + 1) D2) else none else none
def f_Model_areNear (v1 v2 v3 : Int) (D : Mm) : Option (Int × Mm) :=
  f_Model_areNear_3 v1 v2 v3 zF 0 D
def f_Model_kin_204 (v4 s0 s1 : Int) (K96 : Int → Int → Option (Int × Mm)) (D : Mm) : Option (Int × Mm) :=
  K96 (s1 + s0) (v4 + 1)
def f_Model_kin_175  (D : Mm) : Nat → Int → Int → Option (Int × Mm)
  | 0, _, _ => none
  | n + 1, v3, v4 =>
    if zI (D 146 0) ≤ zI v4 then
      some (v3, D)
    else
      if 0 ≤ v4 ∧ v4 < 6 then
      if zI (D 165 v4) = zI v4 then
        f_Model_kin_204 v4 1 v3 (f_Model_kin_175 D n) D
      else
        f_Model_kin_204 v4 0 v3 (f_Model_kin_175 D n) D else none
def f_Model_kin_140 (v1 v2 v3 v4 v5 s0 s1 : Int) (K45 : Int → Mm → Option (Int × Mm)) (D : Mm) : Option (Int × Mm) :=
  if 0 ≤ s1 ∧ s1 < 6 then (zst D 165 s1 s0 fun D1 =>
  K45 (v5 + 1) D1) else none
def f_Model_kin_133 (v1 v2 v3 v4 v5 s0 : Int) (K45 : Int → Mm → Option (Int × Mm)) (D : Mm) : Option (Int × Mm) :=
  if 0 ≤ v4 ∧ v4 < 6 then
  f_Model_kin_140 v1 v2 v3 v4 v5 (D 165 v4) s0 K45 D else none
def f_Model_kin_77 (v1 v2 v3 v4 : Int) (K37 : Int → Mm → Option (Int × Mm))  : Nat → Int → Mm → Option (Int × Mm)
  | 0, _, _ => none
  | n + 1, v5, D =>
    if zI (D 146 0) ≤ zI v5 then
      K37 (v4 + 1) D
    else
      zb (f_Model_areNear v4 v5 v1 D) fun r1 D2 =>
      if zI r1 = 0 then
        f_Model_kin_133 v1 v2 v3 v4 v5 v4 (f_Model_kin_77 v1 v2 v3 v4 K37 n) D2
      else
        if 0 ≤ v5 ∧ v5 < 6 then
        if 0 ≤ v4 ∧ v4 < 6 then
        if zI (D2 165 v4) ≤ zI (D2 165 v5) then
          f_Model_kin_133 v1 v2 v3 v4 v5 v4 (f_Model_kin_77 v1 v2 v3 v4 K37 n) D2
        else
          if 0 ≤ v5 ∧ v5 < 6 then
          f_Model_kin_140 v1 v2 v3 v4 v5 (D2 165 v5) v4 (f_Model_kin_77 v1 v2 v3 v4 K37 n) D2 else none else none else none
def f_Model_kin_63 (v1 v2 v3 : Int) (K32 : Int → Mm → Option (Int × Mm))  : Nat → Int → Mm → Option (Int × Mm)
  | 0, _, _ => none
  | n + 1, v4, D =>
    if zI (D 146 0) ≤ zI v4 then
      K32 (v3 + 1) D
    else
      f_Model_kin_77 v1 v2 v3 v4 (f_Model_kin_63 v1 v2 v3 K32 n) zF 0 D
def f_Model_kin_54 (v1 v2 : Int)  : Nat → Int → Mm → Option (Int × Mm)
  | 0, _, _ => none
  | n + 1, v3, D =>
    if zI 6 ≤ zI v3 then
      if zI v2 < 0 then
        f_Model_kin_175 D zF 0 0
      else
        if 0 ≤ v2 ∧ v2 < 6 then
        some (D 165 v2, D) else none
    else
      f_Model_kin_63 v1 v2 v3 (f_Model_kin_54 v1 v2 n) zF 0 D
def f_Model_kin_29 (v1 v2 : Int)  : Nat → Int → Mm → Option (Int × Mm)
  | 0, _, _ => none
  | n + 1, v3, D =>
    if zI (D 146 0) ≤ zI v3 then
      f_Model_kin_54 v1 v2 zF 0 D
    else
      if 0 ≤ v3 ∧ v3 < 6 then (zst D 165 v3 v3 fun D1 =>
      f_Model_kin_29 v1 v2 n (v3 + 1) D1) else none
def f_Model_kin_27 (v1 v2 : Int)  (D : Mm) : Option (Int × Mm) :=
  f_Model_kin_29 v1 v2 zF 0 D
def f_Model_kin (v1 v2 : Int) (D : Mm) : Option (Int × Mm) :=
  (f_Model_in (wI v1) 0 200 D).bind fun r1 =>
  if zI r1 = 0 then
    some ((-1), D)
  else
    if zI v2 = zI (-1) then
      f_Model_kin_27 v1 v2 D
    else
      (f_Model_isSort v2 D).bind fun r2 =>
      if zI r2 = 0 then
        some ((-1), D)
      else
        f_Model_kin_27 v1 v2 D
def f_Model_cooked_162 (v6 s0 : Int) (K70 : Int → Int → Option (Int × Mm)) (D : Mm) : Option (Int × Mm) :=
  K70 s0 (v6 + 1)
def f_Model_cooked_121  (D : Mm) : Nat → Int → Int → Option (Int × Mm)
  | 0, _, _ => none
  | n + 1, v5, v6 =>
    if zI (D 146 0) ≤ zI v6 then
      some (v5, D)
    else
      (f_Model_apart v6 166 D).bind fun r1 =>
      (f_Model_apart v5 166 D).bind fun r2 =>
      if zI r2 ≤ zI r1 then
        f_Model_cooked_162 v6 v5 (f_Model_cooked_121 D n) D
      else
        f_Model_cooked_162 v6 v6 (f_Model_cooked_121 D n) D
def f_Model_cooked_76 (v1 v2 v3 v4 v5 v6 s0 : Int) (K22 : Int → Int → Mm → Option (Int × Mm)) (D : Mm) : Option (Int × Mm) :=
  if 0 ≤ v5 ∧ v5 < 4 then (zst D 166 v5 ((v6 - s0) + v4) fun D1 =>
  K22 s0 (v5 + 1) D1) else none
def f_Model_cooked_40 (v1 v2 v3 : Int)  : Nat → Int → Int → Mm → Option (Int × Mm)
  | 0, _, _, _ => none
  | n + 1, v4, v5, D =>
    if zI 4 ≤ zI v5 then
      if zI 4 ≤ zI v3 then
        f_Model_cooked_121 D zF 0 1
      else
        if 0 ≤ v3 ∧ v3 < 4 then
        some (D 166 v3, D) else none
    else
      if 0 ≤ (4 * v1) + v5 ∧ (4 * v1) + v5 < 48 then
      if zI 3 ≤ zI v5 then
        f_Model_cooked_76 v1 v2 v3 v4 v5 (D 147 ((4 * v1) + v5)) 0 (f_Model_cooked_40 v1 v2 v3 n) D
      else
        f_Model_cooked_76 v1 v2 v3 v4 v5 (D 147 ((4 * v1) + v5)) (jdiv ((D 147 ((4 * v1) + v5)) * v2) 100) (f_Model_cooked_40 v1 v2 v3 n) D else none
def f_Model_cooked (v1 v2 v3 : Int) (D : Mm) : Option (Int × Mm) :=
  (f_Model_isSort v1 D).bind fun r1 =>
  if zI r1 = 0 then
    some ((-1), D)
  else
    (f_Model_in (wI v2) 0 100 D).bind fun r2 =>
    if zI r2 = 0 then
      some ((-1), D)
    else
      (f_Model_in (wI v3) 0 4 D).bind fun r3 =>
      if zI r3 = 0 then
        some ((-1), D)
      else
        f_Model_cooked_40 v1 v2 v3 zF 0 0 D
def f_Model_count (v1 v2 v3 : Int) (D : Mm) : Option (Int × Mm) :=
  (f_Model_isFace v1 D).bind fun r1 =>
  if zI r1 = 0 then
    some ((-1), D)
  else
    (f_Model_isSort v2 D).bind fun r2 =>
    if zI r2 = 0 then
      some ((-1), D)
    else
      (f_Model_in (wI v3) 0 99 D).bind fun r3 =>
      if zI r3 = 0 then
        some ((-1), D)
      else
        if 0 ≤ (6 * v1) + v2 ∧ (6 * v1) + v2 < 180 then
        if 0 ≤ (6 * v1) + v2 ∧ (6 * v1) + v2 < 180 then (zst D 159 ((6 * v1) + v2) v3 fun D4 =>
        if 0 ≤ v1 ∧ v1 < 30 then (zst D4 160 v1 1 fun D5 =>
        some (D 159 ((6 * v1) + v2), D5)) else none) else none else none
def f_Model_laidBy_37 (v2 v4 v5 s0 s1 : Int) (K6 : Int → Int → Int → Option (Int)) (D : Mm) : Option (Int) :=
  K6 (s1 + s0) (jdiv v4 10) (v5 + (-1))
def f_Model_laidBy_8 (v2 : Int)  (D : Mm) : Nat → Int → Int → Int → Option (Int)
  | 0, _, _, _ => none
  | n + 1, v3, v4, v5 =>
    if zI v5 < 0 then
      if 0 ≤ v2 ∧ v2 < 20 then
      some (v3 * (D 151 v2)) else none
    else
      if 0 ≤ v2 ∧ v2 < 20 then
      (f_Model_has (D 152 v2) v5 D).bind fun r1 =>
      if zI r1 = 0 then
        f_Model_laidBy_37 v2 v4 v5 0 v3 (f_Model_laidBy_8 v2 D n) D
      else
        f_Model_laidBy_37 v2 v4 v5 (jrem v4 10) v3 (f_Model_laidBy_8 v2 D n) D else none
def f_Model_laidBy (v1 v2 : Int) (D : Mm) : Option (Int) :=
  f_Model_laidBy_8 v2 D zF 0 v1 3
def f_Model_fits_74 (v1 v2 v3 v4 : Int) (K2 : Int → Option (Int)) (D : Mm) : Option (Int) :=
  K2 (v4 + 1)
def f_Model_fits_3 (v1 v2 v3 : Int)  (D : Mm) : Nat → Int → Option (Int)
  | 0, _ => none
  | n + 1, v4 =>
    if zI (D 148 0) ≤ zI v4 then
      some 1
    else
      if 0 ≤ (6 * v4) + v2 ∧ (6 * v4) + v2 < 180 then
      (f_Model_laidBy v1 v4 D).bind fun r1 =>
      if 0 ≤ v4 ∧ v4 < 20 then
      if zI (D 150 v4) = zI 3 then
        if 0 ≤ v4 ∧ v4 < 30 then
        if zI (D 160 v4) = zI 1 then
          (f_Model_in (wI ((D 159 ((6 * v4) + v2)) - r1)) (wI (-v3)) (wI v3) D).bind fun r2 =>
          if zI r2 = 0 then
            some 0
          else
            f_Model_fits_74 v1 v2 v3 v4 (f_Model_fits_3 v1 v2 v3 D n) D
        else
          f_Model_fits_74 v1 v2 v3 v4 (f_Model_fits_3 v1 v2 v3 D n) D else none
      else
        f_Model_fits_74 v1 v2 v3 v4 (f_Model_fits_3 v1 v2 v3 D n) D else none else none
def f_Model_fits (v1 v2 v3 : Int) (D : Mm) : Option (Int) :=
  f_Model_fits_3 v1 v2 v3 D zF 0
def f_Model_figure_4 (v1 : Int)  (D : Mm) : Nat → Int → Int → Option (Int)
  | 0, _, _ => none
  | n + 1, v2, v3 =>
    if zI v3 ≤ zI v1 then
      some (jrem v2 10)
    else
      f_Model_figure_4 v1 D n (jdiv v2 10) (v3 + (-1))
def f_Model_figure (v0 v1 : Int) (D : Mm) : Option (Int) :=
  f_Model_figure_4 v1 D zF v0 3
def f_Model_books_120 (v1 v2 v3 v4 v5 v6 v7 : Int) (K24 : Int → Int → Int → Option (Int)) (D : Mm) : Option (Int) :=
  K24 v5 v6 (v7 + 1)
def f_Model_books_115 (v1 v2 v3 v4 v5 v7 s0 : Int) (K24 : Int → Int → Int → Option (Int)) (D : Mm) : Option (Int) :=
  f_Model_books_120 v1 v2 v3 v4 (v5 + 1) s0 v7 K24 D
def f_Model_books_113 (v1 v2 v3 v4 v5 v6 v7 : Int) (K24 : Int → Int → Int → Option (Int)) (D : Mm) : Option (Int) :=
  f_Model_books_115 v1 v2 v3 v4 v5 v7 v6 K24 D
def f_Model_books_108 (v1 v2 v3 v4 v5 v7 v8 : Int) (K24 : Int → Int → Int → Option (Int)) (D : Mm) : Option (Int) :=
  f_Model_books_115 v1 v2 v3 v4 v5 v7 v8 K24 D
def f_Model_books_76 (v1 v2 v3 v4 v5 v6 v7 s0 s1 : Int) (K24 : Int → Int → Int → Option (Int)) (D : Mm) : Option (Int) :=
  (f_Model_figure s1 s0 D).bind fun r1 =>
  if zI v5 = 0 then
    f_Model_books_108 v1 v2 v3 v4 v5 v7 r1 K24 D
  else
    if zI v4 = 0 then
      if zI v6 ≤ zI r1 then
        f_Model_books_113 v1 v2 v3 v4 v5 v6 v7 K24 D
      else
        f_Model_books_108 v1 v2 v3 v4 v5 v7 r1 K24 D
    else
      if zI r1 ≤ zI v6 then
        f_Model_books_113 v1 v2 v3 v4 v5 v6 v7 K24 D
      else
        f_Model_books_108 v1 v2 v3 v4 v5 v7 r1 K24 D
def f_Model_books_46 (v1 v2 v3 v4 : Int)  (D : Mm) : Nat → Int → Int → Int → Option (Int)
  | 0, _, _, _ => none
  | n + 1, v5, v6, v7 =>
    if zI 10000 ≤ zI v7 then
      if 0 ≤ zI v3 then
        some v6
      else
        some v5
    else
      (f_Model_fits v7 v1 v2 D).bind fun r1 =>
      if zI r1 = 0 then
        f_Model_books_120 v1 v2 v3 v4 v5 v6 v7 (f_Model_books_46 v1 v2 v3 v4 D n) D
      else
        if 0 ≤ zI v3 then
          f_Model_books_76 v1 v2 v3 v4 v5 v6 v7 v3 v7 (f_Model_books_46 v1 v2 v3 v4 D n) D
        else
          f_Model_books_76 v1 v2 v3 v4 v5 v6 v7 0 v7 (f_Model_books_46 v1 v2 v3 v4 D n) D
def f_Model_books (v1 v2 v3 v4 : Int) (D : Mm) : Option (Int) :=
  (f_Model_isSort v1 D).bind fun r1 =>
  if zI r1 = 0 then
    some (-1)
  else
    (f_Model_in (wI v2) 0 99 D).bind fun r2 =>
    if zI r2 = 0 then
      some (-1)
    else
      (f_Model_in (wI v3) (-1) 3 D).bind fun r3 =>
      if zI r3 = 0 then
        some (-1)
      else
        f_Model_books_46 v1 v2 v3 v4 D zF 0 (-4) 0
def f_Model_groundOf_96 (v1 v2 v3 v4 v5 v6 : Int) (K4 : Int → Int → Option (Int)) (D : Mm) : Option (Int) :=
  K4 v5 (v6 + 1)
def f_Model_groundOf_94 (v1 v2 v3 v4 v6 s0 : Int) (K4 : Int → Int → Option (Int)) (D : Mm) : Option (Int) :=
  f_Model_groundOf_96 v1 v2 v3 v4 s0 v6 K4 D
def f_Model_groundOf_92 (v1 v2 v3 v4 v5 v6 : Int) (K4 : Int → Int → Option (Int)) (D : Mm) : Option (Int) :=
  f_Model_groundOf_94 v1 v2 v3 v4 v6 v5 K4 D
def f_Model_groundOf_87 (v1 v2 v3 v4 v6 v7 : Int) (K4 : Int → Int → Option (Int)) (D : Mm) : Option (Int) :=
  f_Model_groundOf_94 v1 v2 v3 v4 v6 v7 K4 D
def f_Model_groundOf_58 (v1 v2 v3 v4 v5 v6 s0 : Int) (K4 : Int → Int → Option (Int)) (D : Mm) : Option (Int) :=
  if zI v5 < 0 then
    f_Model_groundOf_87 v1 v2 v3 v4 v6 s0 K4 D
  else
    if zI v4 = 0 then
      if zI v5 ≤ zI s0 then
        f_Model_groundOf_92 v1 v2 v3 v4 v5 v6 K4 D
      else
        f_Model_groundOf_87 v1 v2 v3 v4 v6 s0 K4 D
    else
      if zI s0 ≤ zI v5 then
        f_Model_groundOf_92 v1 v2 v3 v4 v5 v6 K4 D
      else
        f_Model_groundOf_87 v1 v2 v3 v4 v6 s0 K4 D
def f_Model_groundOf_7 (v1 v2 v3 v4 : Int)  (D : Mm) : Nat → Int → Int → Option (Int)
  | 0, _, _ => none
  | n + 1, v5, v6 =>
    if zI 10000 ≤ zI v6 then
      some v5
    else
      (f_Model_fits v6 v2 v3 D).bind fun r1 =>
      if zI r1 = 0 then
        f_Model_groundOf_96 v1 v2 v3 v4 v5 v6 (f_Model_groundOf_7 v1 v2 v3 v4 D n) D
      else
        if 0 ≤ (6 * v1) + v2 ∧ (6 * v1) + v2 < 180 then
        (f_Model_laidBy v6 v1 D).bind fun r2 =>
        if 0 ≤ zI ((D 159 ((6 * v1) + v2)) - r2) then
          f_Model_groundOf_58 v1 v2 v3 v4 v5 v6 ((D 159 ((6 * v1) + v2)) - r2) (f_Model_groundOf_7 v1 v2 v3 v4 D n) D
        else
          f_Model_groundOf_58 v1 v2 v3 v4 v5 v6 0 (f_Model_groundOf_7 v1 v2 v3 v4 D n) D else none
def f_Model_groundOf (v1 v2 v3 v4 : Int) (D : Mm) : Option (Int) :=
  f_Model_groundOf_7 v1 v2 v3 v4 D zF (-4) 0
def f_Model_ground (v1 v2 v3 v4 : Int) (D : Mm) : Option (Int) :=
  (f_Model_isFace v1 D).bind fun r1 =>
  if zI r1 = 0 then
    some (-1)
  else
    (f_Model_isSort v2 D).bind fun r2 =>
    if zI r2 = 0 then
      some (-1)
    else
      (f_Model_in (wI v3) 0 99 D).bind fun r3 =>
      if zI r3 = 0 then
        some (-1)
      else
        (f_Model_groundOf v1 v2 v3 v4 D).bind fun r4 =>
        some r4
def f_Model_sureOf_37 (v1 v2 v4 s0 s1 : Int) (K4 : Int → Int → Option (Int)) (D : Mm) : Option (Int) :=
  K4 (jor s1 s0) (v4 + 1)
def f_Model_sureOf_5 (v1 v2 : Int)  (D : Mm) : Nat → Int → Int → Option (Int)
  | 0, _, _ => none
  | n + 1, v3, v4 =>
    if zI (D 146 0) ≤ zI v4 then
      some v3
    else
      (f_Model_groundOf v1 v4 v2 0 D).bind fun r1 =>
      if zI r1 ≤ 0 then
        f_Model_sureOf_37 v1 v2 v4 0 v3 (f_Model_sureOf_5 v1 v2 D n) D
      else
        f_Model_sureOf_37 v1 v2 v4 (jshl 1 v4) v3 (f_Model_sureOf_5 v1 v2 D n) D
def f_Model_sureOf (v1 v2 : Int) (D : Mm) : Option (Int) :=
  f_Model_sureOf_5 v1 v2 D zF 0 0
def f_Model_sure (v1 v2 : Int) (D : Mm) : Option (Int) :=
  (f_Model_isFace v1 D).bind fun r1 =>
  if zI r1 = 0 then
    some (-1)
  else
    (f_Model_in (wI v2) 0 99 D).bind fun r2 =>
    if zI r2 = 0 then
      some (-1)
    else
      (f_Model_sureOf v1 v2 D).bind fun r3 =>
      some r3
def f_Model_leave_204 (v1 v2 v3 v4 v5 : Int) (K20 : Int → Int → Int → Option (Int)) (D : Mm) : Option (Int) :=
  K20 v3 v4 (v5 + 1)
def f_Model_leave_197 (v1 v2 v5 v7 : Int) (K20 : Int → Int → Int → Option (Int)) (D : Mm) : Option (Int) :=
  f_Model_leave_204 v1 v2 v5 v7 v5 K20 D
def f_Model_leave_160 (v1 v2 v3 v4 v5 v6 v8 v9 v10 s0 s1 : Int) (K65 : Int → Int → Option (Int)) (D : Mm) : Option (Int) :=
  K65 (s1 + s0) (v10 + 1)
def f_Model_leave_120 (v1 v2 v3 v4 v5 v6 v8 v9 : Int) (K31 : Int → Int → Int → Int → Option (Int))  (D : Mm) : Nat → Int → Int → Option (Int)
  | 0, _, _ => none
  | n + 1, v7, v10 =>
    if zI (D 146 0) ≤ zI v10 then
      K31 v6 v7 v8 (v9 + 1)
    else
      (f_Model_has v5 v9 D).bind fun r1 =>
      if zI r1 = 0 then
        if 0 ≤ (6 * v9) + v10 ∧ (6 * v9) + v10 < 48 then
        f_Model_leave_160 v1 v2 v3 v4 v5 v6 v8 v9 v10 (D 154 ((6 * v9) + v10)) v7 (f_Model_leave_120 v1 v2 v3 v4 v5 v6 v8 v9 K31 D n) D else none
      else
        f_Model_leave_160 v1 v2 v3 v4 v5 v6 v8 v9 v10 0 v7 (f_Model_leave_120 v1 v2 v3 v4 v5 v6 v8 v9 K31 D n) D
def f_Model_leave_115 (v1 v2 v3 v4 v5 v6 v7 v9 s0 : Int) (K31 : Int → Int → Int → Int → Option (Int)) (D : Mm) : Option (Int) :=
  f_Model_leave_120 v1 v2 v3 v4 v5 v6 s0 v9 K31 D zF v7 0
def f_Model_leave_114 (v1 v2 v3 v4 v5 v6 v7 v9 : Int) (K31 : Int → Int → Int → Int → Option (Int)) (D : Mm) : Option (Int) :=
  f_Model_leave_115 v1 v2 v3 v4 v5 v6 v7 v9 0 K31 D
def f_Model_leave_110 (v1 v2 v3 v4 v5 v6 v7 v9 : Int) (K31 : Int → Int → Int → Int → Option (Int)) (D : Mm) : Option (Int) :=
  f_Model_leave_115 v1 v2 v3 v4 v5 v6 v7 v9 1 K31 D
def f_Model_leave_81 (v1 v2 v3 v4 v5 v7 v8 v9 s0 s1 : Int) (K31 : Int → Int → Int → Int → Option (Int)) (D : Mm) : Option (Int) :=
  if zI v8 = 0 then
    f_Model_leave_114 v1 v2 v3 v4 v5 (s1 + s0) v7 v9 K31 D
  else
    (f_Model_has v5 v9 D).bind fun r1 =>
    if zI r1 = 0 then
      f_Model_leave_110 v1 v2 v3 v4 v5 (s1 + s0) v7 v9 K31 D
    else
      if 0 ≤ v9 ∧ v9 < 8 then
      if zI (D 157 v9) = zI 1 then
        f_Model_leave_114 v1 v2 v3 v4 v5 (s1 + s0) v7 v9 K31 D
      else
        f_Model_leave_110 v1 v2 v3 v4 v5 (s1 + s0) v7 v9 K31 D else none
def f_Model_leave_52 (v1 v2 v3 v4 v5 : Int) (K20 : Int → Int → Int → Option (Int))  (D : Mm) : Nat → Int → Int → Int → Int → Option (Int)
  | 0, _, _, _, _ => none
  | n + 1, v6, v7, v8, v9 =>
    if zI 4 ≤ zI v9 then
      if zI v8 = 0 then
        f_Model_leave_204 v1 v2 v3 v4 v5 K20 D
      else
        if zI v6 < zI v1 then
          f_Model_leave_204 v1 v2 v3 v4 v5 K20 D
        else
          if zI v3 < 0 then
            f_Model_leave_197 v1 v2 v5 v7 K20 D
          else
            if zI v4 ≤ zI v7 then
              f_Model_leave_204 v1 v2 v3 v4 v5 K20 D
            else
              f_Model_leave_197 v1 v2 v5 v7 K20 D
    else
      (f_Model_has v5 v9 D).bind fun r1 =>
      if zI r1 = 0 then
        f_Model_leave_81 v1 v2 v3 v4 v5 v7 v8 v9 0 v6 (f_Model_leave_52 v1 v2 v3 v4 v5 K20 D n) D
      else
        if 0 ≤ v9 ∧ v9 < 8 then
        f_Model_leave_81 v1 v2 v3 v4 v5 v7 v8 v9 (D 156 v9) v6 (f_Model_leave_52 v1 v2 v3 v4 v5 K20 D n) D else none
def f_Model_leave_33 (v1 v2 : Int)  (D : Mm) : Nat → Int → Int → Int → Option (Int)
  | 0, _, _, _ => none
  | n + 1, v3, v4, v5 =>
    if zI 16 ≤ zI v5 then
      if 0 ≤ zI v3 then
        if zI v2 = 0 then
          some v3
        else
          some v4
      else
        some (-4)
    else
      f_Model_leave_52 v1 v2 v3 v4 v5 (f_Model_leave_33 v1 v2 D n) D zF 0 0 1 0
def f_Model_leave (v1 v2 : Int) (D : Mm) : Option (Int) :=
  (f_Model_in (wI v1) 0 399 D).bind fun r1 =>
  if zI r1 = 0 then
    some (-1)
  else
    (f_Model_in (wI v2) 0 1 D).bind fun r2 =>
    if zI r2 = 0 then
      some (-1)
    else
      f_Model_leave_33 v1 v2 D zF (-4) 0 0
def f_Model_blindOf_44 (v1 v2 v4 s0 s1 : Int) (K4 : Int → Int → Option (Int)) (D : Mm) : Option (Int) :=
  K4 (s1 + s0) (v4 + 1)
def f_Model_blindOf_5 (v1 v2 : Int)  (D : Mm) : Nat → Int → Int → Option (Int)
  | 0, _, _ => none
  | n + 1, v3, v4 =>
    if zI 6 ≤ zI v4 then
      some v3
    else
      if zI v2 = 0 then
        if 0 ≤ (6 * v1) + v4 ∧ (6 * v1) + v4 < 108 then
        f_Model_blindOf_44 v1 v2 v4 (D 161 ((6 * v1) + v4)) v3 (f_Model_blindOf_5 v1 v2 D n) D else none
      else
        if 0 ≤ (6 * v4) + v1 ∧ (6 * v4) + v1 < 108 then
        f_Model_blindOf_44 v1 v2 v4 (D 161 ((6 * v4) + v1)) v3 (f_Model_blindOf_5 v1 v2 D n) D else none
def f_Model_blindOf (v1 v2 : Int) (D : Mm) : Option (Int) :=
  f_Model_blindOf_5 v1 v2 D zF 0 0
def f_Model_blindAll_4  (D : Mm) : Nat → Int → Int → Option (Int)
  | 0, _, _ => none
  | n + 1, v1, v2 =>
    if zI 36 ≤ zI v2 then
      some v1
    else
      if 0 ≤ v2 ∧ v2 < 108 then
      f_Model_blindAll_4 D n (v1 + (D 161 v2)) (v2 + 1) else none
def f_Model_blindAll (D : Mm) : Option (Int) :=
  f_Model_blindAll_4 D zF 0 0
def f_Model_blind (v1 v2 : Int) (D : Mm) : Option (Int × Mm) :=
  (f_Model_isSort v1 D).bind fun r1 =>
  if zI r1 = 0 then
    some ((-1), D)
  else
    (f_Model_isSort v2 D).bind fun r2 =>
    if zI r2 = 0 then
      some ((-1), D)
    else
      (f_Model_blindAll D).bind fun r3 =>
      if zI r3 = zI 200 then
        some ((-3), D)
      else
        if 0 ≤ (6 * v1) + v2 ∧ (6 * v1) + v2 < 108 then
        if 0 ≤ (6 * v1) + v2 ∧ (6 * v1) + v2 < 108 then (zst D 161 ((6 * v1) + v2) ((D 161 ((6 * v1) + v2)) + 1) fun D4 =>
        if 0 ≤ (6 * v1) + v2 ∧ (6 * v1) + v2 < 108 then
        some (D4 161 ((6 * v1) + v2), D4) else none) else none else none
def f_Model_slips (v1 v2 v3 : Int) (D : Mm) : Option (Int) :=
  (f_Model_isSort v1 D).bind fun r1 =>
  if zI r1 = 0 then
    some (-1)
  else
    (f_Model_isSort v2 D).bind fun r2 =>
    if zI r2 = 0 then
      some (-1)
    else
      (f_Model_in (wI v3) 0 1 D).bind fun r3 =>
      if zI r3 = 0 then
        some (-1)
      else
        (f_Model_blindOf v1 0 D).bind fun r4 =>
        if zI r4 = 0 then
          some (-4)
        else
          if 0 ≤ (6 * v1) + v2 ∧ (6 * v1) + v2 < 108 then
          (f_Model_common (wI (D 161 ((6 * v1) + v2))) (wI r4) D).bind fun r5 =>
          if zI v3 = 0 then
            if 0 ≤ (6 * v1) + v2 ∧ (6 * v1) + v2 < 108 then
            if zI r5 = 0 then none else
            some (jdiv (D 161 ((6 * v1) + v2)) r5) else none
          else
            if zI r5 = 0 then none else
            some (jdiv r4 r5) else none
def f_Model_lean (v1 : Int) (D : Mm) : Option (Int) :=
  (f_Model_isSort v1 D).bind fun r1 =>
  if zI r1 = 0 then
    some (-1000)
  else
    (f_Model_blindOf v1 1 D).bind fun r2 =>
    (f_Model_blindOf v1 0 D).bind fun r3 =>
    some (r2 - r3)
def f_Model_right (v1 v2 : Int) (D : Mm) : Option (Int) :=
  (f_Model_isSort v1 D).bind fun r1 =>
  if zI r1 = 0 then
    some (-1)
  else
    (f_Model_in (wI v2) 0 999 D).bind fun r2 =>
    if zI r2 = 0 then
      some (-1)
    else
      (f_Model_blindOf v1 1 D).bind fun r3 =>
      if zI r3 = 0 then
        some (-4)
      else
        (f_Model_blindOf v1 0 D).bind fun r4 =>
        if zI r3 = 0 then none else
        some (jdiv (v2 * r4) r3)
def f_Model_teeth (v1 : Int) (D : Mm) : Option (Int × Mm) :=
  (f_Model_in (wI v1) 0 (wI ((jshl 1 (D 146 0)) - 1)) D).bind fun r1 =>
  if zI r1 = 0 then
    some ((-1), D)
  else
    zst D 162 0 v1 fun D2 =>
    some (D 162 0, D2)
def f_Model_eaten (v1 v2 : Int) (D : Mm) : Option (Int) :=
  (f_Model_isFace v1 D).bind fun r1 =>
  if zI r1 = 0 then
    some (-1)
  else
    (f_Model_in (wI v2) 0 99 D).bind fun r2 =>
    if zI r2 = 0 then
      some (-1)
    else
      (f_Model_sureOf v1 v2 D).bind fun r3 =>
      some (jand r3 (D 162 0))
def f_Model_readArea_54 (v1 v3 s0 s1 : Int) (K4 : Int → Int → Option (Int)) (D : Mm) : Option (Int) :=
  K4 (s1 + s0) (v3 + 1)
def f_Model_readArea_53 (v1 v3 s0 : Int) (K4 : Int → Int → Option (Int)) (D : Mm) : Option (Int) :=
  f_Model_readArea_54 v1 v3 0 s0 K4 D
def f_Model_readArea_4 (v1 : Int)  (D : Mm) : Nat → Int → Int → Option (Int)
  | 0, _, _ => none
  | n + 1, v2, v3 =>
    if zI (D 148 0) ≤ zI v3 then
      some v2
    else
      if 0 ≤ v3 ∧ v3 < 20 then
      if zI (D 150 v3) = 0 then
        f_Model_readArea_53 v1 v3 v2 (f_Model_readArea_4 v1 D n) D
      else
        if 0 ≤ v3 ∧ v3 < 20 then
        if zI (D 149 v3) = zI v1 then
          if 0 ≤ v3 ∧ v3 < 30 then
          if zI (D 160 v3) = zI 1 then
            if 0 ≤ v3 ∧ v3 < 20 then
            f_Model_readArea_54 v1 v3 (D 151 v3) v2 (f_Model_readArea_4 v1 D n) D else none
          else
            f_Model_readArea_53 v1 v3 v2 (f_Model_readArea_4 v1 D n) D else none
        else
          f_Model_readArea_53 v1 v3 v2 (f_Model_readArea_4 v1 D n) D else none else none
def f_Model_readArea (v1 : Int) (D : Mm) : Option (Int) :=
  f_Model_readArea_4 v1 D zF 0 0
def f_Model_next_75 (v2 s0 : Int) (K4 : Int → Int → Option (Int)) (D : Mm) : Option (Int) :=
  K4 s0 (v2 + 1)
def f_Model_next_74 (v1 v2 : Int) (K4 : Int → Int → Option (Int)) (D : Mm) : Option (Int) :=
  f_Model_next_75 v2 v1 K4 D
def f_Model_next_70 (v2 : Int) (K4 : Int → Int → Option (Int)) (D : Mm) : Option (Int) :=
  f_Model_next_75 v2 v2 K4 D
def f_Model_next_38 (v1 v2 s0 : Int) (K4 : Int → Int → Option (Int)) (D : Mm) : Option (Int) :=
  if zI s0 = 0 then
    f_Model_next_74 v1 v2 K4 D
  else
    if zI v1 < 0 then
      f_Model_next_70 v2 K4 D
    else
      if 0 ≤ v2 ∧ v2 < 20 then
      (f_Model_readArea (D 149 v2) D).bind fun r1 =>
      if 0 ≤ v1 ∧ v1 < 20 then
      (f_Model_readArea (D 149 v1) D).bind fun r2 =>
      if zI r1 ≤ zI r2 then
        f_Model_next_74 v1 v2 K4 D
      else
        f_Model_next_70 v2 K4 D else none else none
def f_Model_next_37 (v1 v2 : Int) (K4 : Int → Int → Option (Int)) (D : Mm) : Option (Int) :=
  f_Model_next_38 v1 v2 0 K4 D
def f_Model_next_5  (D : Mm) : Nat → Int → Int → Option (Int)
  | 0, _, _ => none
  | n + 1, v1, v2 =>
    if zI (D 148 0) ≤ zI v2 then
      some v1
    else
      if 0 ≤ v2 ∧ v2 < 20 then
      if zI (D 150 v2) = 0 then
        if 0 ≤ v2 ∧ v2 < 30 then
        if zI (D 160 v2) = 0 then
          f_Model_next_38 v1 v2 1 (f_Model_next_5 D n) D
        else
          f_Model_next_37 v1 v2 (f_Model_next_5 D n) D else none
      else
        f_Model_next_37 v1 v2 (f_Model_next_5 D n) D else none
def f_Model_next (D : Mm) : Option (Int) :=
  f_Model_next_5 D zF (-4) 0
def f_Model_copy_74 (v1 v2 : Int)  : Nat → Int → Mm → Option (Int × Mm)
  | 0, _, _ => none
  | n + 1, v3, D =>
    if zI 36 ≤ zI v3 then
      if 0 ≤ v1 ∧ v1 < 3 then
      if 0 ≤ v2 ∧ v2 < 3 then (zst D 162 v2 (D 162 v1) fun D1 =>
      some (0, D1)) else none else none
    else
      if 0 ≤ (36 * v1) + v3 ∧ (36 * v1) + v3 < 108 then
      if 0 ≤ (36 * v2) + v3 ∧ (36 * v2) + v3 < 108 then (zst D 161 ((36 * v2) + v3) (D 161 ((36 * v1) + v3)) fun D2 =>
      f_Model_copy_74 v1 v2 n (v3 + 1) D2) else none else none
def f_Model_copy_38 (v1 v2 : Int)  : Nat → Int → Mm → Option (Int × Mm)
  | 0, _, _ => none
  | n + 1, v3, D =>
    if zI 10 ≤ zI v3 then
      f_Model_copy_74 v1 v2 zF 0 D
    else
      if 0 ≤ (10 * v1) + v3 ∧ (10 * v1) + v3 < 30 then
      if 0 ≤ (10 * v2) + v3 ∧ (10 * v2) + v3 < 30 then (zst D 160 ((10 * v2) + v3) (D 160 ((10 * v1) + v3)) fun D1 =>
      f_Model_copy_38 v1 v2 n (v3 + 1) D1) else none else none
def f_Model_copy_2 (v1 v2 : Int)  : Nat → Int → Mm → Option (Int × Mm)
  | 0, _, _ => none
  | n + 1, v3, D =>
    if zI 60 ≤ zI v3 then
      f_Model_copy_38 v1 v2 zF 0 D
    else
      if 0 ≤ (60 * v1) + v3 ∧ (60 * v1) + v3 < 180 then
      if 0 ≤ (60 * v2) + v3 ∧ (60 * v2) + v3 < 180 then (zst D 159 ((60 * v2) + v3) (D 159 ((60 * v1) + v3)) fun D1 =>
      f_Model_copy_2 v1 v2 n (v3 + 1) D1) else none else none
def f_Model_copy (v1 v2 : Int) (D : Mm) : Option (Int × Mm) :=
  f_Model_copy_2 v1 v2 zF 0 D
def f_Model_keep (D : Mm) : Option (Int × Mm) :=
  if zI (D 144 19) = zI 2 then
    some ((-3), D)
  else
    zst D 144 19 ((D 144 19) + 1) fun D1 =>
    zb (f_Model_copy 0 (D1 144 19) D1) fun _ D3 =>
    some (D3 144 19, D3)
def f_Model_back (D : Mm) : Option (Int × Mm) :=
  if zI (D 144 19) = 0 then
    some ((-2), D)
  else
    zb (f_Model_copy (D 144 19) 0 D) fun _ D2 =>
    zst D2 144 19 ((D2 144 19) - 1) fun D3 =>
    some (D3 144 19, D3)
def f_Model_size_71  (D : Mm) : Nat → Int → Int → Option (Int)
  | 0, _, _ => none
  | n + 1, v2, v3 =>
    if zI (D 148 0) ≤ zI v3 then
      some v2
    else
      if 0 ≤ v3 ∧ v3 < 30 then
      f_Model_size_71 D n (v2 + (D 160 v3)) (v3 + 1) else none
def f_Model_size (v1 : Int) (D : Mm) : Option (Int) :=
  if zI v1 = zI 0 then
    some (D 146 0)
  else
  if zI v1 = zI 1 then
    some (D 148 0)
  else
  if zI v1 = zI 2 then
    some (D 144 0)
  else
  if zI v1 = zI 3 then
    (f_Model_blindAll D).bind fun r1 =>
    some r1
  else
  if zI v1 = zI 4 then
    some (D 144 19)
  else
  if zI v1 = zI 5 then
    f_Model_size_71 D zF 0 0
  else
    some (-1)
def f_Quern_beAsAtFirst (v0 : Int) (D : Mm) : Option (Int × Mm) :=
  zst D (v0 + 2 + 0) 0 100 fun D1 =>
  zst D1 v0 0 1 fun D2 =>
  zst D2 (v0 + 10) 0 1 fun D3 =>
  zst D3 v0 1 1 fun D4 =>
  some (0, D4)
