def f_Law_law_1316 (xs : Nat → Int32) (L : Nat) (v3 : Int) (K10 : Int → Mm → Option (Unit)) (D : Mm) : Option (Unit) :=
  K10 (v3 + 7) D
def f_Law_law_1293 (xs : Nat → Int32) (L : Nat) (v3 : Int) (K10 : Int → Mm → Option (Unit)) (D : Mm) : Option (Unit) :=
  if 0 ≤ v3 + 1 ∧ v3 + 1 < (L : Int) then
  (f_Main_size (xz xs (v3 + 1)) D).bind fun r1 =>
  if 0 ≤ v3 + 1 ∧ v3 + 1 < (L : Int) then
  (f_Model_size (xz xs (v3 + 1)) D).bind fun r2 =>
  if zI r1 = zI r2 then
    f_Law_law_1316 xs L v3 K10 D
  else
    none else none else none
def f_Law_law_1280 (xs : Nat → Int32) (L : Nat) (v3 : Int) (K10 : Int → Mm → Option (Unit)) (D : Mm) : Option (Unit) :=
  zb (f_Main_back D) fun r1 D2 =>
  zb (f_Model_back D2) fun r3 D4 =>
  if zI r1 = zI r3 then
    f_Law_law_1316 xs L v3 K10 D4
  else
    none
def f_Law_law_1267 (xs : Nat → Int32) (L : Nat) (v3 : Int) (K10 : Int → Mm → Option (Unit)) (D : Mm) : Option (Unit) :=
  zb (f_Main_keep D) fun r1 D2 =>
  zb (f_Model_keep D2) fun r3 D4 =>
  if zI r1 = zI r3 then
    f_Law_law_1316 xs L v3 K10 D4
  else
    none
def f_Law_law_1254 (xs : Nat → Int32) (L : Nat) (v3 : Int) (K10 : Int → Mm → Option (Unit)) (D : Mm) : Option (Unit) :=
  (f_Main_next D).bind fun r1 =>
  (f_Model_next D).bind fun r2 =>
  if zI r1 = zI r2 then
    f_Law_law_1316 xs L v3 K10 D
  else
    none
def f_Law_law_1221 (xs : Nat → Int32) (L : Nat) (v3 : Int) (K10 : Int → Mm → Option (Unit)) (D : Mm) : Option (Unit) :=
  if 0 ≤ v3 + 1 ∧ v3 + 1 < (L : Int) then
  if 0 ≤ v3 + 2 ∧ v3 + 2 < (L : Int) then
  zb (f_Main_eaten (xz xs (v3 + 1)) (xz xs (v3 + 2)) D) fun r1 D2 =>
  if 0 ≤ v3 + 1 ∧ v3 + 1 < (L : Int) then
  if 0 ≤ v3 + 2 ∧ v3 + 2 < (L : Int) then
  (f_Model_eaten (xz xs (v3 + 1)) (xz xs (v3 + 2)) D2).bind fun r3 =>
  if zI r1 = zI r3 then
    f_Law_law_1316 xs L v3 K10 D2
  else
    none else none else none else none else none
def f_Law_law_1198 (xs : Nat → Int32) (L : Nat) (v3 : Int) (K10 : Int → Mm → Option (Unit)) (D : Mm) : Option (Unit) :=
  if 0 ≤ v3 + 1 ∧ v3 + 1 < (L : Int) then
  zb (f_Main_teeth (xz xs (v3 + 1)) D) fun r1 D2 =>
  if 0 ≤ v3 + 1 ∧ v3 + 1 < (L : Int) then
  zb (f_Model_teeth (xz xs (v3 + 1)) D2) fun r3 D4 =>
  if zI r1 = zI r3 then
    f_Law_law_1316 xs L v3 K10 D4
  else
    none else none else none
def f_Law_law_1165 (xs : Nat → Int32) (L : Nat) (v3 : Int) (K10 : Int → Mm → Option (Unit)) (D : Mm) : Option (Unit) :=
  if 0 ≤ v3 + 1 ∧ v3 + 1 < (L : Int) then
  if 0 ≤ v3 + 2 ∧ v3 + 2 < (L : Int) then
  (f_Main_right (xz xs (v3 + 1)) (xz xs (v3 + 2)) D).bind fun r1 =>
  if 0 ≤ v3 + 1 ∧ v3 + 1 < (L : Int) then
  if 0 ≤ v3 + 2 ∧ v3 + 2 < (L : Int) then
  (f_Model_right (xz xs (v3 + 1)) (xz xs (v3 + 2)) D).bind fun r2 =>
  if zI r1 = zI r2 then
    f_Law_law_1316 xs L v3 K10 D
  else
    none else none else none else none else none
def f_Law_law_1142 (xs : Nat → Int32) (L : Nat) (v3 : Int) (K10 : Int → Mm → Option (Unit)) (D : Mm) : Option (Unit) :=
  if 0 ≤ v3 + 1 ∧ v3 + 1 < (L : Int) then
  (f_Main_lean (xz xs (v3 + 1)) D).bind fun r1 =>
  if 0 ≤ v3 + 1 ∧ v3 + 1 < (L : Int) then
  (f_Model_lean (xz xs (v3 + 1)) D).bind fun r2 =>
  if zI r1 = zI r2 then
    f_Law_law_1316 xs L v3 K10 D
  else
    none else none else none
def f_Law_law_1099 (xs : Nat → Int32) (L : Nat) (v3 : Int) (K10 : Int → Mm → Option (Unit)) (D : Mm) : Option (Unit) :=
  if 0 ≤ v3 + 1 ∧ v3 + 1 < (L : Int) then
  if 0 ≤ v3 + 2 ∧ v3 + 2 < (L : Int) then
  if 0 ≤ v3 + 3 ∧ v3 + 3 < (L : Int) then
  (f_Main_slips (xz xs (v3 + 1)) (xz xs (v3 + 2)) (xz xs (v3 + 3)) D).bind fun r1 =>
  if 0 ≤ v3 + 1 ∧ v3 + 1 < (L : Int) then
  if 0 ≤ v3 + 2 ∧ v3 + 2 < (L : Int) then
  if 0 ≤ v3 + 3 ∧ v3 + 3 < (L : Int) then
  (f_Model_slips (xz xs (v3 + 1)) (xz xs (v3 + 2)) (xz xs (v3 + 3)) D).bind fun r2 =>
  if zI r1 = zI r2 then
    f_Law_law_1316 xs L v3 K10 D
  else
    none else none else none else none else none else none else none
def f_Law_law_1066 (xs : Nat → Int32) (L : Nat) (v3 : Int) (K10 : Int → Mm → Option (Unit)) (D : Mm) : Option (Unit) :=
  if 0 ≤ v3 + 1 ∧ v3 + 1 < (L : Int) then
  if 0 ≤ v3 + 2 ∧ v3 + 2 < (L : Int) then
  zb (f_Main_blind (xz xs (v3 + 1)) (xz xs (v3 + 2)) D) fun r1 D2 =>
  if 0 ≤ v3 + 1 ∧ v3 + 1 < (L : Int) then
  if 0 ≤ v3 + 2 ∧ v3 + 2 < (L : Int) then
  zb (f_Model_blind (xz xs (v3 + 1)) (xz xs (v3 + 2)) D2) fun r3 D4 =>
  if zI r1 = zI r3 then
    f_Law_law_1316 xs L v3 K10 D4
  else
    none else none else none else none else none
def f_Law_law_1033 (xs : Nat → Int32) (L : Nat) (v3 : Int) (K10 : Int → Mm → Option (Unit)) (D : Mm) : Option (Unit) :=
  if 0 ≤ v3 + 1 ∧ v3 + 1 < (L : Int) then
  if 0 ≤ v3 + 2 ∧ v3 + 2 < (L : Int) then
  (f_Main_leave (xz xs (v3 + 1)) (xz xs (v3 + 2)) D).bind fun r1 =>
  if 0 ≤ v3 + 1 ∧ v3 + 1 < (L : Int) then
  if 0 ≤ v3 + 2 ∧ v3 + 2 < (L : Int) then
  (f_Model_leave (xz xs (v3 + 1)) (xz xs (v3 + 2)) D).bind fun r2 =>
  if zI r1 = zI r2 then
    f_Law_law_1316 xs L v3 K10 D
  else
    none else none else none else none else none
def f_Law_law_1000 (xs : Nat → Int32) (L : Nat) (v3 : Int) (K10 : Int → Mm → Option (Unit)) (D : Mm) : Option (Unit) :=
  if 0 ≤ v3 + 1 ∧ v3 + 1 < (L : Int) then
  if 0 ≤ v3 + 2 ∧ v3 + 2 < (L : Int) then
  zb (f_Main_sure (xz xs (v3 + 1)) (xz xs (v3 + 2)) D) fun r1 D2 =>
  if 0 ≤ v3 + 1 ∧ v3 + 1 < (L : Int) then
  if 0 ≤ v3 + 2 ∧ v3 + 2 < (L : Int) then
  (f_Model_sure (xz xs (v3 + 1)) (xz xs (v3 + 2)) D2).bind fun r3 =>
  if zI r1 = zI r3 then
    f_Law_law_1316 xs L v3 K10 D2
  else
    none else none else none else none else none
def f_Law_law_992 (xs : Nat → Int32) (L : Nat) (v3 s0 s1 s2 s3 s5 : Int) (K10 : Int → Mm → Option (Unit)) (D : Mm) : Option (Unit) :=
  (f_Model_ground s3 s2 s1 s0 D).bind fun r1 =>
  if zI s5 = zI r1 then
    f_Law_law_1316 xs L v3 K10 D
  else
    none
def f_Law_law_960 (xs : Nat → Int32) (L : Nat) (v3 s0 s1 s2 s3 : Int) (K10 : Int → Mm → Option (Unit)) (D : Mm) : Option (Unit) :=
  zb (f_Main_ground s3 s2 s1 s0 D) fun r1 D2 =>
  if 0 ≤ v3 + 1 ∧ v3 + 1 < (L : Int) then
  if 0 ≤ v3 + 2 ∧ v3 + 2 < (L : Int) then
  if 0 ≤ v3 + 3 ∧ v3 + 3 < (L : Int) then
  if 0 ≤ v3 + 4 ∧ v3 + 4 < (L : Int) then
  if zI (xz xs (v3 + 4)) = 0 then
    f_Law_law_992 xs L v3 0 (xz xs (v3 + 3)) (xz xs (v3 + 2)) (xz xs (v3 + 1)) r1 K10 D2
  else
    f_Law_law_992 xs L v3 1 (xz xs (v3 + 3)) (xz xs (v3 + 2)) (xz xs (v3 + 1)) r1 K10 D2 else none else none else none else none
def f_Law_law_931 (xs : Nat → Int32) (L : Nat) (v3 : Int) (K10 : Int → Mm → Option (Unit)) (D : Mm) : Option (Unit) :=
  if 0 ≤ v3 + 1 ∧ v3 + 1 < (L : Int) then
  if 0 ≤ v3 + 2 ∧ v3 + 2 < (L : Int) then
  if 0 ≤ v3 + 3 ∧ v3 + 3 < (L : Int) then
  if 0 ≤ v3 + 4 ∧ v3 + 4 < (L : Int) then
  if zI (xz xs (v3 + 4)) = 0 then
    f_Law_law_960 xs L v3 0 (xz xs (v3 + 3)) (xz xs (v3 + 2)) (xz xs (v3 + 1)) K10 D
  else
    f_Law_law_960 xs L v3 1 (xz xs (v3 + 3)) (xz xs (v3 + 2)) (xz xs (v3 + 1)) K10 D else none else none else none else none
def f_Law_law_923 (xs : Nat → Int32) (L : Nat) (v3 s0 s1 s2 s3 s5 : Int) (K10 : Int → Mm → Option (Unit)) (D : Mm) : Option (Unit) :=
  (f_Model_books s3 s2 s1 s0 D).bind fun r1 =>
  if zI s5 = zI r1 then
    f_Law_law_1316 xs L v3 K10 D
  else
    none
def f_Law_law_891 (xs : Nat → Int32) (L : Nat) (v3 s0 s1 s2 s3 : Int) (K10 : Int → Mm → Option (Unit)) (D : Mm) : Option (Unit) :=
  zb (f_Main_books s3 s2 s1 s0 D) fun r1 D2 =>
  if 0 ≤ v3 + 1 ∧ v3 + 1 < (L : Int) then
  if 0 ≤ v3 + 2 ∧ v3 + 2 < (L : Int) then
  if 0 ≤ v3 + 3 ∧ v3 + 3 < (L : Int) then
  if 0 ≤ v3 + 4 ∧ v3 + 4 < (L : Int) then
  if zI (xz xs (v3 + 4)) = 0 then
    f_Law_law_923 xs L v3 0 (xz xs (v3 + 3)) (xz xs (v3 + 2)) (xz xs (v3 + 1)) r1 K10 D2
  else
    f_Law_law_923 xs L v3 1 (xz xs (v3 + 3)) (xz xs (v3 + 2)) (xz xs (v3 + 1)) r1 K10 D2 else none else none else none else none
def f_Law_law_862 (xs : Nat → Int32) (L : Nat) (v3 : Int) (K10 : Int → Mm → Option (Unit)) (D : Mm) : Option (Unit) :=
  if 0 ≤ v3 + 1 ∧ v3 + 1 < (L : Int) then
  if 0 ≤ v3 + 2 ∧ v3 + 2 < (L : Int) then
  if 0 ≤ v3 + 3 ∧ v3 + 3 < (L : Int) then
  if 0 ≤ v3 + 4 ∧ v3 + 4 < (L : Int) then
  if zI (xz xs (v3 + 4)) = 0 then
    f_Law_law_891 xs L v3 0 (xz xs (v3 + 3)) (xz xs (v3 + 2)) (xz xs (v3 + 1)) K10 D
  else
    f_Law_law_891 xs L v3 1 (xz xs (v3 + 3)) (xz xs (v3 + 2)) (xz xs (v3 + 1)) K10 D else none else none else none else none
def f_Law_law_819 (xs : Nat → Int32) (L : Nat) (v3 : Int) (K10 : Int → Mm → Option (Unit)) (D : Mm) : Option (Unit) :=
  if 0 ≤ v3 + 1 ∧ v3 + 1 < (L : Int) then
  if 0 ≤ v3 + 2 ∧ v3 + 2 < (L : Int) then
  if 0 ≤ v3 + 3 ∧ v3 + 3 < (L : Int) then
  zb (f_Main_count (xz xs (v3 + 1)) (xz xs (v3 + 2)) (xz xs (v3 + 3)) D) fun r1 D2 =>
  if 0 ≤ v3 + 1 ∧ v3 + 1 < (L : Int) then
  if 0 ≤ v3 + 2 ∧ v3 + 2 < (L : Int) then
  if 0 ≤ v3 + 3 ∧ v3 + 3 < (L : Int) then
  zb (f_Model_count (xz xs (v3 + 1)) (xz xs (v3 + 2)) (xz xs (v3 + 3)) D2) fun r3 D4 =>
  if zI r1 = zI r3 then
    f_Law_law_1316 xs L v3 K10 D4
  else
    none else none else none else none else none else none else none
def f_Law_law_776 (xs : Nat → Int32) (L : Nat) (v3 : Int) (K10 : Int → Mm → Option (Unit)) (D : Mm) : Option (Unit) :=
  if 0 ≤ v3 + 1 ∧ v3 + 1 < (L : Int) then
  if 0 ≤ v3 + 2 ∧ v3 + 2 < (L : Int) then
  if 0 ≤ v3 + 3 ∧ v3 + 3 < (L : Int) then
  (f_Main_cooked (xz xs (v3 + 1)) (xz xs (v3 + 2)) (xz xs (v3 + 3)) D).bind fun r1 =>
  if 0 ≤ v3 + 1 ∧ v3 + 1 < (L : Int) then
  if 0 ≤ v3 + 2 ∧ v3 + 2 < (L : Int) then
  if 0 ≤ v3 + 3 ∧ v3 + 3 < (L : Int) then
  zb (f_Model_cooked (xz xs (v3 + 1)) (xz xs (v3 + 2)) (xz xs (v3 + 3)) D) fun r2 D3 =>
  if zI r1 = zI r2 then
    f_Law_law_1316 xs L v3 K10 D3
  else
    none else none else none else none else none else none else none
def f_Law_law_743 (xs : Nat → Int32) (L : Nat) (v3 : Int) (K10 : Int → Mm → Option (Unit)) (D : Mm) : Option (Unit) :=
  if 0 ≤ v3 + 1 ∧ v3 + 1 < (L : Int) then
  if 0 ≤ v3 + 2 ∧ v3 + 2 < (L : Int) then
  (f_Main_kin (xz xs (v3 + 1)) (xz xs (v3 + 2)) D).bind fun r1 =>
  if 0 ≤ v3 + 1 ∧ v3 + 1 < (L : Int) then
  if 0 ≤ v3 + 2 ∧ v3 + 2 < (L : Int) then
  zb (f_Model_kin (xz xs (v3 + 1)) (xz xs (v3 + 2)) D) fun r2 D3 =>
  if zI r1 = zI r2 then
    f_Law_law_1316 xs L v3 K10 D3
  else
    none else none else none else none else none
def f_Law_law_668 (xs : Nat → Int32) (L : Nat) (v3 : Int) (K10 : Int → Mm → Option (Unit)) (D : Mm) : Option (Unit) :=
  if 0 ≤ v3 + 1 ∧ v3 + 1 < (L : Int) then
  if 0 ≤ v3 + 2 ∧ v3 + 2 < (L : Int) then
  if 0 ≤ v3 + 3 ∧ v3 + 3 < (L : Int) then
  if 0 ≤ v3 + 4 ∧ v3 + 4 < (L : Int) then
  if 0 ≤ v3 + 5 ∧ v3 + 5 < (L : Int) then
  if 0 ≤ v3 + 6 ∧ v3 + 6 < (L : Int) then
  zb (f_Main_shares (xz xs (v3 + 1)) (xz xs (v3 + 2)) (xz xs (v3 + 3)) (xz xs (v3 + 4)) (xz xs (v3 + 5)) (xz xs (v3 + 6)) D) fun r1 D2 =>
  if 0 ≤ v3 + 1 ∧ v3 + 1 < (L : Int) then
  if 0 ≤ v3 + 2 ∧ v3 + 2 < (L : Int) then
  if 0 ≤ v3 + 3 ∧ v3 + 3 < (L : Int) then
  if 0 ≤ v3 + 4 ∧ v3 + 4 < (L : Int) then
  if 0 ≤ v3 + 5 ∧ v3 + 5 < (L : Int) then
  if 0 ≤ v3 + 6 ∧ v3 + 6 < (L : Int) then
  zb (f_Model_shares (xz xs (v3 + 1)) (xz xs (v3 + 2)) (xz xs (v3 + 3)) (xz xs (v3 + 4)) (xz xs (v3 + 5)) (xz xs (v3 + 6)) D2) fun r3 D4 =>
  if zI r1 = zI r3 then
    f_Law_law_1316 xs L v3 K10 D4
  else
    none else none else none else none else none else none else none else none else none else none else none else none else none
def f_Law_law_615 (xs : Nat → Int32) (L : Nat) (v3 : Int) (K10 : Int → Mm → Option (Unit)) (D : Mm) : Option (Unit) :=
  if 0 ≤ v3 + 1 ∧ v3 + 1 < (L : Int) then
  if 0 ≤ v3 + 2 ∧ v3 + 2 < (L : Int) then
  if 0 ≤ v3 + 3 ∧ v3 + 3 < (L : Int) then
  if 0 ≤ v3 + 4 ∧ v3 + 4 < (L : Int) then
  zb (f_Main_most (xz xs (v3 + 1)) (xz xs (v3 + 2)) (xz xs (v3 + 3)) (xz xs (v3 + 4)) D) fun r1 D2 =>
  if 0 ≤ v3 + 1 ∧ v3 + 1 < (L : Int) then
  if 0 ≤ v3 + 2 ∧ v3 + 2 < (L : Int) then
  if 0 ≤ v3 + 3 ∧ v3 + 3 < (L : Int) then
  if 0 ≤ v3 + 4 ∧ v3 + 4 < (L : Int) then
  zb (f_Model_most (xz xs (v3 + 1)) (xz xs (v3 + 2)) (xz xs (v3 + 3)) (xz xs (v3 + 4)) D2) fun r3 D4 =>
  if zI r1 = zI r3 then
    f_Law_law_1316 xs L v3 K10 D4
  else
    none else none else none else none else none else none else none else none else none
def f_Law_law_539 (xs : Nat → Int32) (L : Nat) (v3 : Int) (K10 : Int → Mm → Option (Unit)) (D : Mm) : Option (Unit) :=
  if 0 ≤ v3 + 1 ∧ v3 + 1 < (L : Int) then
  if 0 ≤ v3 + 2 ∧ v3 + 2 < (L : Int) then
  if 0 ≤ v3 + 3 ∧ v3 + 3 < (L : Int) then
  if 0 ≤ v3 + 4 ∧ v3 + 4 < (L : Int) then
  if 0 ≤ v3 + 5 ∧ v3 + 5 < (L : Int) then
  if 0 ≤ v3 + 6 ∧ v3 + 6 < (L : Int) then
  zb (f_Main_heap (xz xs (v3 + 1)) (xz xs (v3 + 2)) (xz xs (v3 + 3)) (xz xs (v3 + 4)) (xz xs (v3 + 5)) (xz xs (v3 + 6)) D) fun r1 D2 =>
  if 0 ≤ v3 + 1 ∧ v3 + 1 < (L : Int) then
  if 0 ≤ v3 + 2 ∧ v3 + 2 < (L : Int) then
  if 0 ≤ v3 + 3 ∧ v3 + 3 < (L : Int) then
  if 0 ≤ v3 + 4 ∧ v3 + 4 < (L : Int) then
  if 0 ≤ v3 + 5 ∧ v3 + 5 < (L : Int) then
  if 0 ≤ v3 + 6 ∧ v3 + 6 < (L : Int) then
  zb (f_Model_heap (xz xs (v3 + 1)) (xz xs (v3 + 2)) (xz xs (v3 + 3)) (xz xs (v3 + 4)) (xz xs (v3 + 5)) (xz xs (v3 + 6)) D2) fun r3 D4 =>
  if zL r1 = zL r3 then
    f_Law_law_1316 xs L v3 K10 D4
  else
    none else none else none else none else none else none else none else none else none else none else none else none else none
def f_Law_law_496 (xs : Nat → Int32) (L : Nat) (v3 : Int) (K10 : Int → Mm → Option (Unit)) (D : Mm) : Option (Unit) :=
  if 0 ≤ v3 + 1 ∧ v3 + 1 < (L : Int) then
  if 0 ≤ v3 + 2 ∧ v3 + 2 < (L : Int) then
  if 0 ≤ v3 + 3 ∧ v3 + 3 < (L : Int) then
  (f_Main_controls (xz xs (v3 + 1)) (xz xs (v3 + 2)) (xz xs (v3 + 3)) D).bind fun r1 =>
  if 0 ≤ v3 + 1 ∧ v3 + 1 < (L : Int) then
  if 0 ≤ v3 + 2 ∧ v3 + 2 < (L : Int) then
  if 0 ≤ v3 + 3 ∧ v3 + 3 < (L : Int) then
  (f_Model_controls (xz xs (v3 + 1)) (xz xs (v3 + 2)) (xz xs (v3 + 3)) D).bind fun r2 =>
  if zI r1 = zI r2 then
    f_Law_law_1316 xs L v3 K10 D
  else
    none else none else none else none else none else none else none
def f_Law_law_453 (xs : Nat → Int32) (L : Nat) (v3 : Int) (K10 : Int → Mm → Option (Unit)) (D : Mm) : Option (Unit) :=
  if 0 ≤ v3 + 1 ∧ v3 + 1 < (L : Int) then
  if 0 ≤ v3 + 2 ∧ v3 + 2 < (L : Int) then
  if 0 ≤ v3 + 3 ∧ v3 + 3 < (L : Int) then
  (f_Main_says (xz xs (v3 + 1)) (xz xs (v3 + 2)) (xz xs (v3 + 3)) D).bind fun r1 =>
  if 0 ≤ v3 + 1 ∧ v3 + 1 < (L : Int) then
  if 0 ≤ v3 + 2 ∧ v3 + 2 < (L : Int) then
  if 0 ≤ v3 + 3 ∧ v3 + 3 < (L : Int) then
  (f_Model_says (xz xs (v3 + 1)) (xz xs (v3 + 2)) (xz xs (v3 + 3)) D).bind fun r2 =>
  if zI r1 = zI r2 then
    f_Law_law_1316 xs L v3 K10 D
  else
    none else none else none else none else none else none else none
def f_Law_law_389 (xs : Nat → Int32) (L : Nat) (v3 : Int) (K10 : Int → Mm → Option (Unit)) (D : Mm) : Option (Unit) :=
  if 0 ≤ v3 + 1 ∧ v3 + 1 < (L : Int) then
  if 0 ≤ v3 + 2 ∧ v3 + 2 < (L : Int) then
  if 0 ≤ v3 + 3 ∧ v3 + 3 < (L : Int) then
  if 0 ≤ v3 + 4 ∧ v3 + 4 < (L : Int) then
  if 0 ≤ v3 + 5 ∧ v3 + 5 < (L : Int) then
  (f_Main_more (xz xs (v3 + 1)) (xz xs (v3 + 2)) (xz xs (v3 + 3)) (xz xs (v3 + 4)) (xz xs (v3 + 5)) D).bind fun r1 =>
  if 0 ≤ v3 + 1 ∧ v3 + 1 < (L : Int) then
  if 0 ≤ v3 + 2 ∧ v3 + 2 < (L : Int) then
  if 0 ≤ v3 + 3 ∧ v3 + 3 < (L : Int) then
  if 0 ≤ v3 + 4 ∧ v3 + 4 < (L : Int) then
  if 0 ≤ v3 + 5 ∧ v3 + 5 < (L : Int) then
  (f_Model_more (xz xs (v3 + 1)) (xz xs (v3 + 2)) (xz xs (v3 + 3)) (xz xs (v3 + 4)) (xz xs (v3 + 5)) D).bind fun r2 =>
  if zL r1 = zL r2 then
    f_Law_law_1316 xs L v3 K10 D
  else
    none else none else none else none else none else none else none else none else none else none else none
def f_Law_law_346 (xs : Nat → Int32) (L : Nat) (v3 : Int) (K10 : Int → Mm → Option (Unit)) (D : Mm) : Option (Unit) :=
  if 0 ≤ v3 + 1 ∧ v3 + 1 < (L : Int) then
  if 0 ≤ v3 + 2 ∧ v3 + 2 < (L : Int) then
  if 0 ≤ v3 + 3 ∧ v3 + 3 < (L : Int) then
  (f_Main_read (xz xs (v3 + 1)) (xz xs (v3 + 2)) (xz xs (v3 + 3)) D).bind fun r1 =>
  if 0 ≤ v3 + 1 ∧ v3 + 1 < (L : Int) then
  if 0 ≤ v3 + 2 ∧ v3 + 2 < (L : Int) then
  if 0 ≤ v3 + 3 ∧ v3 + 3 < (L : Int) then
  (f_Model_read (xz xs (v3 + 1)) (xz xs (v3 + 2)) (xz xs (v3 + 3)) D).bind fun r2 =>
  if zI r1 = zI r2 then
    f_Law_law_1316 xs L v3 K10 D
  else
    none else none else none else none else none else none else none
def f_Law_law_303 (xs : Nat → Int32) (L : Nat) (v3 : Int) (K10 : Int → Mm → Option (Unit)) (D : Mm) : Option (Unit) :=
  if 0 ≤ v3 + 1 ∧ v3 + 1 < (L : Int) then
  if 0 ≤ v3 + 2 ∧ v3 + 2 < (L : Int) then
  if 0 ≤ v3 + 3 ∧ v3 + 3 < (L : Int) then
  (f_Main_lies (xz xs (v3 + 1)) (xz xs (v3 + 2)) (xz xs (v3 + 3)) D).bind fun r1 =>
  if 0 ≤ v3 + 1 ∧ v3 + 1 < (L : Int) then
  if 0 ≤ v3 + 2 ∧ v3 + 2 < (L : Int) then
  if 0 ≤ v3 + 3 ∧ v3 + 3 < (L : Int) then
  (f_Model_lies (xz xs (v3 + 1)) (xz xs (v3 + 2)) (xz xs (v3 + 3)) D).bind fun r2 =>
  if zI r1 = zI r2 then
    f_Law_law_1316 xs L v3 K10 D
  else
    none else none else none else none else none else none else none
def f_Law_law_270 (xs : Nat → Int32) (L : Nat) (v3 : Int) (K10 : Int → Mm → Option (Unit)) (D : Mm) : Option (Unit) :=
  if 0 ≤ v3 + 1 ∧ v3 + 1 < (L : Int) then
  if 0 ≤ v3 + 2 ∧ v3 + 2 < (L : Int) then
  (f_Main_face (xz xs (v3 + 1)) (xz xs (v3 + 2)) D).bind fun r1 =>
  if 0 ≤ v3 + 1 ∧ v3 + 1 < (L : Int) then
  if 0 ≤ v3 + 2 ∧ v3 + 2 < (L : Int) then
  (f_Model_face (xz xs (v3 + 1)) (xz xs (v3 + 2)) D).bind fun r2 =>
  if zI r1 = zI r2 then
    f_Law_law_1316 xs L v3 K10 D
  else
    none else none else none else none else none
def f_Law_law_257 (xs : Nat → Int32) (L : Nat) (v3 : Int) (K10 : Int → Mm → Option (Unit)) (D : Mm) : Option (Unit) :=
  zb (f_Main_lay D) fun r1 D2 =>
  zb (f_Model_lay D2) fun r3 D4 =>
  if zI r1 = zI r3 then
    f_Law_law_1316 xs L v3 K10 D4
  else
    none
def f_Law_law_244 (xs : Nat → Int32) (L : Nat) (v3 : Int) (K10 : Int → Mm → Option (Unit)) (D : Mm) : Option (Unit) :=
  zb (f_Main_fault D) fun r1 D2 =>
  zb (f_Model_fault D2) fun r3 D4 =>
  if zI r1 = zI r3 then
    f_Law_law_1316 xs L v3 K10 D4
  else
    none
def f_Law_law_231 (xs : Nat → Int32) (L : Nat) (v3 : Int) (K10 : Int → Mm → Option (Unit)) (D : Mm) : Option (Unit) :=
  zb (f_Main_wipe D) fun r1 D2 =>
  zb (f_Model_wipe D2) fun r3 D4 =>
  if zI r1 = zI r3 then
    f_Law_law_1316 xs L v3 K10 D4
  else
    none
def f_Law_law_168 (xs : Nat → Int32) (L : Nat) (v3 : Int) (K10 : Int → Mm → Option (Unit)) (D : Mm) : Option (Unit) :=
  if 0 ≤ v3 + 1 ∧ v3 + 1 < (L : Int) then
  if 0 ≤ v3 + 2 ∧ v3 + 2 < (L : Int) then
  if 0 ≤ v3 + 3 ∧ v3 + 3 < (L : Int) then
  zb (f_Main_write (xz xs (v3 + 1)) (jlor (jlshl (wI (xz xs (v3 + 2))) 32) (jland (wI (xz xs (v3 + 3))) 4294967295)) D) fun r1 D2 =>
  if 0 ≤ v3 + 1 ∧ v3 + 1 < (L : Int) then
  if 0 ≤ v3 + 2 ∧ v3 + 2 < (L : Int) then
  if 0 ≤ v3 + 3 ∧ v3 + 3 < (L : Int) then
  zb (f_Model_write (xz xs (v3 + 1)) (jlor (jlshl (wI (xz xs (v3 + 2))) 32) (jland (wI (xz xs (v3 + 3))) 4294967295)) D2) fun r3 D4 =>
  if zI r1 = zI r3 then
    f_Law_law_1316 xs L v3 K10 D4
  else
    none else none else none else none else none else none else none
def f_Law_law_18 (xs : Nat → Int32) (L : Nat)  : Nat → Int → Mm → Option (Unit)
  | 0, _, _ => none
  | n + 1, v3, D =>
    if zI ((L : Int) - 7) < zI v3 then
      some ()
    else
      if 0 ≤ v3 ∧ v3 < (L : Int) then
      if zI (jand (xz xs v3) 31) = zI 0 then
        f_Law_law_168 xs L v3 (f_Law_law_18 xs L n) D
      else
      if zI (jand (xz xs v3) 31) = zI 1 then
        f_Law_law_231 xs L v3 (f_Law_law_18 xs L n) D
      else
      if zI (jand (xz xs v3) 31) = zI 2 then
        f_Law_law_244 xs L v3 (f_Law_law_18 xs L n) D
      else
      if zI (jand (xz xs v3) 31) = zI 3 then
        f_Law_law_257 xs L v3 (f_Law_law_18 xs L n) D
      else
      if zI (jand (xz xs v3) 31) = zI 4 then
        f_Law_law_270 xs L v3 (f_Law_law_18 xs L n) D
      else
      if zI (jand (xz xs v3) 31) = zI 5 then
        f_Law_law_303 xs L v3 (f_Law_law_18 xs L n) D
      else
      if zI (jand (xz xs v3) 31) = zI 6 then
        f_Law_law_346 xs L v3 (f_Law_law_18 xs L n) D
      else
      if zI (jand (xz xs v3) 31) = zI 7 then
        f_Law_law_389 xs L v3 (f_Law_law_18 xs L n) D
      else
      if zI (jand (xz xs v3) 31) = zI 8 then
        f_Law_law_453 xs L v3 (f_Law_law_18 xs L n) D
      else
      if zI (jand (xz xs v3) 31) = zI 9 then
        f_Law_law_496 xs L v3 (f_Law_law_18 xs L n) D
      else
      if zI (jand (xz xs v3) 31) = zI 10 then
        f_Law_law_539 xs L v3 (f_Law_law_18 xs L n) D
      else
      if zI (jand (xz xs v3) 31) = zI 11 then
        f_Law_law_615 xs L v3 (f_Law_law_18 xs L n) D
      else
      if zI (jand (xz xs v3) 31) = zI 12 then
        f_Law_law_668 xs L v3 (f_Law_law_18 xs L n) D
      else
      if zI (jand (xz xs v3) 31) = zI 13 then
        f_Law_law_743 xs L v3 (f_Law_law_18 xs L n) D
      else
      if zI (jand (xz xs v3) 31) = zI 14 then
        f_Law_law_776 xs L v3 (f_Law_law_18 xs L n) D
      else
      if zI (jand (xz xs v3) 31) = zI 15 then
        f_Law_law_819 xs L v3 (f_Law_law_18 xs L n) D
      else
      if zI (jand (xz xs v3) 31) = zI 16 then
        f_Law_law_862 xs L v3 (f_Law_law_18 xs L n) D
      else
      if zI (jand (xz xs v3) 31) = zI 17 then
        f_Law_law_931 xs L v3 (f_Law_law_18 xs L n) D
      else
      if zI (jand (xz xs v3) 31) = zI 18 then
        f_Law_law_1000 xs L v3 (f_Law_law_18 xs L n) D
      else
      if zI (jand (xz xs v3) 31) = zI 19 then
        f_Law_law_1033 xs L v3 (f_Law_law_18 xs L n) D
      else
      if zI (jand (xz xs v3) 31) = zI 20 then
        f_Law_law_1066 xs L v3 (f_Law_law_18 xs L n) D
      else
      if zI (jand (xz xs v3) 31) = zI 21 then
        f_Law_law_1099 xs L v3 (f_Law_law_18 xs L n) D
      else
      if zI (jand (xz xs v3) 31) = zI 22 then
        f_Law_law_1142 xs L v3 (f_Law_law_18 xs L n) D
      else
      if zI (jand (xz xs v3) 31) = zI 23 then
        f_Law_law_1165 xs L v3 (f_Law_law_18 xs L n) D
      else
      if zI (jand (xz xs v3) 31) = zI 24 then
        f_Law_law_1198 xs L v3 (f_Law_law_18 xs L n) D
      else
      if zI (jand (xz xs v3) 31) = zI 25 then
        f_Law_law_1221 xs L v3 (f_Law_law_18 xs L n) D
      else
      if zI (jand (xz xs v3) 31) = zI 26 then
        f_Law_law_1254 xs L v3 (f_Law_law_18 xs L n) D
      else
      if zI (jand (xz xs v3) 31) = zI 27 then
        f_Law_law_1267 xs L v3 (f_Law_law_18 xs L n) D
      else
      if zI (jand (xz xs v3) 31) = zI 28 then
        f_Law_law_1280 xs L v3 (f_Law_law_18 xs L n) D
      else
      if zI (jand (xz xs v3) 31) = zI 29 then
        f_Law_law_1293 xs L v3 (f_Law_law_18 xs L n) D
      else
        f_Law_law_1316 xs L v3 (f_Law_law_18 xs L n) D else none
