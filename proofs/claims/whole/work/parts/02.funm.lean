/-! laid by program (split.py): functions of the methods -/
/-! 10.m00.lean.txt -/
def f12_lay_69 (k3 : Int64 → Int32 → Ob → Option (Ob)) (x1 : Int64) (x3 : Int32) (SM : Ob) : Option (Ob) :=
  lt (x3 + (-8) : Int32) fun x3_1 =>
  k3 x1 x3_1 SM
def f12_lay_38 (k3 : Int64 → Int32 → Ob → Option (Ob)) (x1 : Int64) (x3 : Int32) (x4 : Int32) (SM : Ob) : Option (Ob) :=
  if 1000 ≤ (SM.1 2) then
    (f12_lay_69 k3 x1 x3 SM)
  else
    (ck (inb (SM.1 2) 1000) <|
    lt (oA SM 1 (Int32.toNatClampNeg (SM.1 2)) x4 : Ob) fun SM_3 =>
    lt (oI SM_3 2 ((SM_3.1 2) + 1) : Ob) fun SM_4 =>
    f12_lay_69 k3 x1 x3 SM_4)
def f12_lay_3 : Nat → Int64 → Int32 → Ob → Option (Ob)
  | 0, _, _, _ => none
  | n + 1, x1, x3, SM => if x3 < 0 then
    (some SM)
  else
    (lt ((Int64.toInt32 (x1 >>> (Int32.toInt64 x3 &&& 63))) &&& 255 : Int32) fun x4_2 =>
    if x4_2 = 10 then
      (f12_lay_38 (f12_lay_3 n) x1 x3 x4_2 SM)
    else
      (if x4_2 < 32 then
        (f12_lay_69 (f12_lay_3 n) x1 x3 SM)
      else
        (if 126 < x4_2 then
          (f12_lay_69 (f12_lay_3 n) x1 x3 SM)
        else
          (f12_lay_38 (f12_lay_3 n) x1 x3 x4_2 SM))))
def f12_lay (x1 : Int64) (SM : Ob) : Option (Ob) :=
  f12_lay_3 FU x1 56 SM
def f12_feed (x1 : Int64) (x3 : Int64) (x5 : Int64) (SM : Ob) : Option (Int32 × Ob) :=
  lt (oI SM 0 0 : Ob) fun SM_1 =>
  bd (f12_lay x1 SM_1) fun r_2 =>
  bd (f12_lay x3 r_2) fun r_4 =>
  bd (f12_lay x5 r_4) fun r_6 =>
  some (r_6.1 2, r_6)
def f12_standsAsAlways_2 : Nat → Int32 → Int32 → Ob → Option (Ob)
  | 0, _, _, _ => none
  | n + 1, x1, x2, SM => if 60 ≤ x2 then
    (ck (inb (x1 + 2) 120) <|
    lt (oA SM 10 (Int32.toNatClampNeg (x1 + 2)) (-1) : Ob) fun SM_3 =>
    some SM_3)
  else
    (ck (inb (x1 + x2) 120) <|
    lt (oA SM 10 (Int32.toNatClampNeg (x1 + x2)) 0 : Ob) fun SM_5 =>
    lt (x2 + 1 : Int32) fun x2_6 =>
    f12_standsAsAlways_2 n x1 x2_6 SM_5)
def f12_standsAsAlways (x1 : Int32) (SM : Ob) : Option (Ob) :=
  f12_standsAsAlways_2 FU x1 0 SM
def f12_signs (SM : Ob) : Option (Int32) :=
  ck (inb 1 120) <|
  some (SM.2.2.1 10 (Int32.toNatClampNeg 1))
def f12_guests (SM : Ob) : Option (Int32) :=
  ck (inb 0 120) <|
  some (SM.2.2.1 10 (Int32.toNatClampNeg 0))
def f12_guestOf (x1 : Int32) (x2 : Int32) (SM : Ob) : Option (Int32) :=
  ck (inb ((3 + (5 * x1)) + x2) 120) <|
  some (SM.2.2.1 10 (Int32.toNatClampNeg ((3 + (5 * x1)) + x2)))
def f12_isAlone_41 (k4 : Int32 → Int32 → Int32 → Ob → Option (Int32)) (x1 : Int32) (x3 : Int32) (z0 : Int32) (SM : Ob) : Option (Int32) :=
  lt (x3 + 1 : Int32) fun x3_1 =>
  k4 x1 z0 x3_1 SM
def f12_isAlone_36 (k4 : Int32 → Int32 → Int32 → Ob → Option (Int32)) (x1 : Int32) (x3 : Int32) (SM : Ob) : Option (Int32) :=
  f12_isAlone_41 k4 x1 x3 1 SM
def f12_isAlone_40 (k4 : Int32 → Int32 → Int32 → Ob → Option (Int32)) (x1 : Int32) (x3 : Int32) (SM : Ob) : Option (Int32) :=
  f12_isAlone_41 k4 x1 x3 0 SM
def f12_isAlone_4 : Nat → Int32 → Int32 → Int32 → Ob → Option (Int32)
  | 0, _, _, _, _ => none
  | n + 1, x1, x2, x3, SM => bd (f12_guests SM) fun r_1 =>
  if r_1 ≤ x3 then
    (ck (isz x2) (some x2))
  else
    (if x2 = 0 then
      (f12_isAlone_40 (f12_isAlone_4 n) x1 x3 SM)
    else
      (if x3 = x1 then
        (f12_isAlone_36 (f12_isAlone_4 n) x1 x3 SM)
      else
        (bd (f12_guestOf x3 1 SM) fun r_6 =>
        bd (f12_guestOf x1 1 SM) fun r_8 =>
        if r_6 = r_8 then
          (f12_isAlone_40 (f12_isAlone_4 n) x1 x3 SM)
        else
          (f12_isAlone_36 (f12_isAlone_4 n) x1 x3 SM))))
def f12_isAlone (x1 : Int32) (SM : Ob) : Option (Int32) :=
  f12_isAlone_4 FU x1 1 0 SM
def f12_worldsOf (x0 : Int32) : Option (Int32) :=
  some (15 <<< ((4 * x0) &&& 31))
def f12_soOf_122 (k4 : Int32 → Int32 → Int32 → Ob → Option (Int32)) (x1 : Int32) (x3 : Int32) (z0 : Int32) (z1 : Int32) (SM : Ob) : Option (Int32) :=
  lt (z0 ||| z1 : Int32) fun x2_1 =>
  lt (x3 + 1 : Int32) fun x3_2 =>
  k4 x1 x2_1 x3_2 SM
def f12_soOf_91 (k4 : Int32 → Int32 → Int32 → Ob → Option (Int32)) (x1 : Int32) (x2 : Int32) (x3 : Int32) (z0 : Int32) (SM : Ob) : Option (Int32) :=
  if 4 ≤ x1 then
    (if z0 = 0 then
      (f12_soOf_122 k4 x1 x3 x2 0 SM)
    else
      (bd (f12_worldsOf x3) fun r_3 =>
      f12_soOf_122 k4 x1 x3 x2 r_3 SM))
  else
    (f12_soOf_122 k4 x1 x3 x2 (1 <<< (((4 * x3) + x1) &&& 31)) SM)
def f12_soOf_4 : Nat → Int32 → Int32 → Int32 → Ob → Option (Int32)
  | 0, _, _, _, _ => none
  | n + 1, x1, x2, x3, SM => bd (f12_guests SM) fun r_1 =>
  if r_1 ≤ x3 then
    (some x2)
  else
    (bd (f12_guestOf x3 1 SM) fun r_4 =>
    if x1 = 4 then
      (ck (nz 2) <|
      if (r_4 - r_4 / 2 * 2) = 1 then
        (f12_soOf_91 (f12_soOf_4 n) x1 x2 x3 1 SM)
      else
        (f12_soOf_91 (f12_soOf_4 n) x1 x2 x3 0 SM))
    else
      (if x1 = 5 then
        (if 6 < r_4 then
          (f12_soOf_91 (f12_soOf_4 n) x1 x2 x3 0 SM)
        else
          (f12_soOf_91 (f12_soOf_4 n) x1 x2 x3 1 SM))
      else
        (if x1 = 6 then
          (bd (f12_isAlone x3 SM) fun r_12 =>
          f12_soOf_91 (f12_soOf_4 n) x1 x2 x3 r_12 SM)
        else
          (bd (f12_guestOf x3 2 SM) fun r_9 =>
          if r_9 < 10 then
            (f12_soOf_91 (f12_soOf_4 n) x1 x2 x3 0 SM)
          else
            (f12_soOf_91 (f12_soOf_4 n) x1 x2 x3 1 SM)))))
def f12_soOf (x1 : Int32) (SM : Ob) : Option (Int32) :=
  f12_soOf_4 FU x1 0 0 SM
def f12_worlds (SM : Ob) : Option (Int32) :=
  bd (f12_guests SM) fun r_1 =>
  some (4 * r_1)
def f12_everyWorld_21 (z0 : Int32) (SM : Ob) : Option (Int32) :=
  some z0
def f12_everyWorld (SM : Ob) : Option (Int32) :=
  bd (f12_worlds SM) fun r_1 =>
  if r_1 = 32 then
    (f12_everyWorld_21 (-1) SM)
  else
    (bd (f12_worlds SM) fun r_4 =>
    f12_everyWorld_21 ((1 <<< (r_4 &&& 31)) - 1) SM)
def f12_soIn_187 (k4 : Int32 → Int32 → Ob → Option (Int32 × Ob)) (x2 : Int32) (x3 : Int32) (SM : Ob) : Option (Int32 × Ob) :=
  lt (x3 + 1 : Int32) fun x3_1 =>
  k4 x2 x3_1 SM
def f12_soIn_97 (k4 : Int32 → Int32 → Ob → Option (Int32 × Ob)) (x2 : Int32) (x3 : Int32) (z1 : Int32) (z2 : Int32) (SM : Ob) : Option (Int32 × Ob) :=
  ck (inb z1 1100) <|
  lt (oA SM 24 (Int32.toNatClampNeg z1) z2 : Ob) fun SM_2 =>
  lt (x2 + 1 : Int32) fun x2_3 =>
  f12_soIn_187 k4 x2_3 x3 SM_2
def f12_soIn_186 (k4 : Int32 → Int32 → Ob → Option (Int32 × Ob)) (x2 : Int32) (x3 : Int32) (z1 : Int32) (z2 : Int32) (SM : Ob) : Option (Int32 × Ob) :=
  ck (inb z1 1100) <|
  lt (oA SM 24 (Int32.toNatClampNeg z1) z2 : Ob) fun SM_2 =>
  f12_soIn_187 k4 x2 x3 SM_2
def f12_soIn_4 : Nat → Int32 → Int32 → Ob → Option (Int32 × Ob)
  | 0, _, _, _ => none
  | n + 1, x2, x3, SM => ck (inb x3 3300) <|
  if (SM.2.2.1 11 (Int32.toNatClampNeg x3)) = 0 then
    (ck (inb 0 1100) <|
    some (SM.2.2.1 24 (Int32.toNatClampNeg 0), SM))
  else
    (ck (inb x3 3300) <|
    lt (SM.2.2.1 11 (Int32.toNatClampNeg x3) : Int32) fun x4_5 =>
    if x4_5 = 2 then
      (ck (inb x3 3300) <|
      bd (f12_soOf (SM.2.2.1 12 (Int32.toNatClampNeg x3)) SM) fun r_28 =>
      ck (inb x2 1100) <|
      lt (oA SM 24 (Int32.toNatClampNeg x2) r_28 : Ob) fun SM_31 =>
      lt (x2 + 1 : Int32) fun x2_32 =>
      f12_soIn_187 (f12_soIn_4 n) x2_32 x3 SM_31)
    else
      (if x4_5 = 1 then
        (ck (inb x3 3300) <|
        if 20 ≤ (SM.2.2.1 12 (Int32.toNatClampNeg x3)) then
          (ck (inb x3 3300) <|
          ck (inb ((SM.2.2.1 12 (Int32.toNatClampNeg x3)) - 20) 6) <|
          f12_soIn_97 (f12_soIn_4 n) x2 x3 x2 (SM.2.2.1 28 (Int32.toNatClampNeg ((SM.2.2.1 12 (Int32.toNatClampNeg x3)) - 20))) SM)
        else
          (ck (inb x3 3300) <|
          bd (f12_worldsOf (SM.2.2.1 12 (Int32.toNatClampNeg x3))) fun r_25 =>
          f12_soIn_97 (f12_soIn_4 n) x2 x3 x2 r_25 SM))
      else
        (if x4_5 = 3 then
          (ck (inb (x2 - 1) 1100) <|
          bd (f12_everyWorld SM) fun r_16 =>
          ck (inb (x2 - 1) 1100) <|
          lt (oA SM 24 (Int32.toNatClampNeg (x2 - 1)) (((SM.2.2.1 24 (Int32.toNatClampNeg (x2 - 1))) ^^^ (-1)) &&& r_16) : Ob) fun SM_19 =>
          f12_soIn_187 (f12_soIn_4 n) x2 x3 SM_19)
        else
          (lt (x2 + (-1) : Int32) fun x2_9 =>
          if x4_5 = 9 then
            (ck (inb (x2_9 - 1) 1100) <|
            ck (inb x2_9 1100) <|
            f12_soIn_186 (f12_soIn_4 n) x2_9 x3 (x2_9 - 1) ((SM.2.2.1 24 (Int32.toNatClampNeg (x2_9 - 1))) &&& (SM.2.2.1 24 (Int32.toNatClampNeg x2_9))) SM)
          else
            (ck (inb (x2_9 - 1) 1100) <|
            ck (inb x2_9 1100) <|
            f12_soIn_186 (f12_soIn_4 n) x2_9 x3 (x2_9 - 1) ((SM.2.2.1 24 (Int32.toNatClampNeg (x2_9 - 1))) ||| (SM.2.2.1 24 (Int32.toNatClampNeg x2_9))) SM)))))
def f12_soIn (x1 : Int32) (SM : Ob) : Option (Int32 × Ob) :=
  f12_soIn_4 FU 0 x1 SM
def f12_starts (x1 : Int32) (SM : Ob) : Option (Ob) :=
  bd (f12_everyWorld SM) fun r_1 =>
  ck (inb (x1 + 0) 660) <|
  lt (oA SM 25 (Int32.toNatClampNeg (x1 + 0)) r_1 : Ob) fun SM_4 =>
  ck (inb (x1 + 1) 660) <|
  lt (oA SM_4 25 (Int32.toNatClampNeg (x1 + 1)) 0 : Ob) fun SM_6 =>
  some SM_6
/-! 11.m01.lean.txt -/
def f12_begins_56 (k41 : Int32 → Ob → Option (Ob)) : Nat → Int32 → Int32 → Ob → Option (Ob)
  | 0, _, _, _ => none
  | n + 1, x1, x2, SM => bd (f12_signs SM) fun r_1 =>
  if r_1 ≤ x2 then
    (lt (x1 + 1 : Int32) fun x1_4 =>
    k41 x1_4 SM)
  else
    (ck (inb x1 32) <|
    ck (inb x2 6) <|
    ck (inb x1 32) <|
    lt (oA SM 29 (Int32.toNatClampNeg x1) ((SM.2.2.1 29 (Int32.toNatClampNeg x1)) ||| ((((SM.2.2.1 28 (Int32.toNatClampNeg x2)) >>> (x1 &&& 31)) &&& 1) <<< (x2 &&& 31))) : Ob) fun SM_8 =>
    lt (x2 + 1 : Int32) fun x2_9 =>
    f12_begins_56 k41 n x1 x2_9 SM_8)
def f12_begins_124 : Nat → Int32 → Ob → Option (Ob)
  | 0, _, _ => none
  | n + 1, x1, SM => if 4 ≤ x1 then
    (some SM)
  else
    (ck (inb x1 4) <|
    lt (oA SM 27 (Int32.toNatClampNeg x1) (vp_nar .boolean 0) : Ob) fun SM_3 =>
    lt (x1 + 1 : Int32) fun x1_4 =>
    f12_begins_124 n x1_4 SM_3)
def f12_begins_41 : Nat → Int32 → Ob → Option (Ob)
  | 0, _, _ => none
  | n + 1, x1, SM => if 32 ≤ x1 then
    (bd (f12_starts 0 SM) fun r_2 =>
    ck (inb 12 660) <|
    lt (oA r_2 25 (Int32.toNatClampNeg 12) 0 : Ob) fun SM_5 =>
    ck (inb 0 160) <|
    lt (oA SM_5 22 (Int32.toNatClampNeg 0) 0 : Ob) fun SM_7 =>
    lt (oI SM_7 26 0 : Ob) fun SM_8 =>
    f12_begins_124 FU 0 SM_8)
  else
    (ck (inb x1 32) <|
    lt (oA SM 29 (Int32.toNatClampNeg x1) 0 : Ob) fun SM_10 =>
    f12_begins_56 (f12_begins_41 n) FU x1 0 SM_10)
def f12_begins_2 : Nat → Int32 → Ob → Option (Ob)
  | 0, _, _ => none
  | n + 1, x1, SM => bd (f12_signs SM) fun r_1 =>
  if r_1 ≤ x1 then
    (f12_begins_41 FU 0 SM)
  else
    (ck (inb ((43 + (2 * x1)) + 1) 120) <|
    bd (f12_soIn (SM.2.2.1 10 (Int32.toNatClampNeg ((43 + (2 * x1)) + 1))) SM) fun r_5 =>
    ck (inb x1 6) <|
    lt (oA (r_5.2) 28 (Int32.toNatClampNeg x1) (r_5.1) : Ob) fun SM_8 =>
    lt (x1 + 1 : Int32) fun x1_9 =>
    f12_begins_2 n x1_9 SM_8)
def f12_begins (SM : Ob) : Option (Ob) :=
  f12_begins_2 FU 0 SM
def f12_isLetter_17 (z0 : Int32) : Option (Int32) :=
  ck (isz z0) (some z0)
def f12_isLetter_16 : Option (Int32) :=
  f12_isLetter_17 0
def f12_isLetter (x0 : Int32) : Option (Int32) :=
  if x0 < 97 then
    (f12_isLetter_16 )
  else
    (if 122 < x0 then
      (f12_isLetter_16 )
    else
      (f12_isLetter_17 1))
def f12_isDigit_17 (z0 : Int32) : Option (Int32) :=
  ck (isz z0) (some z0)
def f12_isDigit_16 : Option (Int32) :=
  f12_isDigit_17 0
def f12_isDigit (x0 : Int32) : Option (Int32) :=
  if x0 < 48 then
    (f12_isDigit_16 )
  else
    (if 57 < x0 then
      (f12_isDigit_16 )
    else
      (f12_isDigit_17 1))
def f12_rank_18 (z0 : Int32) : Option (Int32) :=
  some z0
def f12_rank (x0 : Int32) : Option (Int32) :=
  bd (f12_isLetter x0) fun r_1 =>
  if r_1 = 0 then
    (f12_rank_18 (x0 - 21))
  else
    (f12_rank_18 (x0 - 96))
def f12_isSignOf_53 (z0 : Int32) : Option (Int32) :=
  ck (isz z0) (some z0)
def f12_isSignOf_48 : Option (Int32) :=
  f12_isSignOf_53 1
def f12_isSignOf (x0 : Int32) : Option (Int32) :=
  if x0 = 40 then
    (f12_isSignOf_48 )
  else
    (if x0 = 41 then
      (f12_isSignOf_48 )
    else
      (if x0 = 59 then
        (f12_isSignOf_48 )
      else
        (if x0 = 61 then
          (f12_isSignOf_48 )
        else
          (if x0 = 60 then
            (f12_isSignOf_48 )
          else
            (if x0 = 43 then
              (f12_isSignOf_48 )
            else
              (if x0 = 45 then
                (f12_isSignOf_48 )
              else
                (if x0 = 42 then
                  (f12_isSignOf_48 )
                else
                  (f12_isSignOf_53 0))))))))
def f12_cutAll_44 (k17 : Int32 → Int32 → Ob → Option (Ob)) (x1 : Int32) (x2 : Int32) (SM : Ob) : Option (Ob) :=
  lt (x2 + 1 : Int32) fun x2_1 =>
  k17 x1 x2_1 SM
def f12_cutAll_121 (k17 : Int32 → Int32 → Ob → Option (Ob)) (k70 : Int32 → Int32 → Int32 → Int64 → Ob → Option (Ob)) (x1 : Int32) (x2 : Int32) (x4 : Int32) (z0 : Int64) (SM : Ob) : Option (Ob) :=
  lt (x2 + 1 : Int32) fun x2_1 =>
  k70 x1 x2_1 x4 z0 SM
def f12_cutAll_265 (k17 : Int32 → Int32 → Ob → Option (Ob)) (x1 : Int32) (x2 : Int32) (x5 : Int64) (SM : Ob) : Option (Ob) :=
  ck (inb x1 1002) <|
  lt (oJ SM 6 (Int32.toNatClampNeg x1) x5 : Ob) fun SM_2 =>
  lt (x1 + 1 : Int32) fun x1_3 =>
  k17 x1_3 x2 SM_2
def f12_cutAll_148 (k17 : Int32 → Int32 → Ob → Option (Ob)) (x1 : Int32) (x2 : Int32) (x5 : Int64) (z1 : Int32) (z2 : Int32) (SM : Ob) : Option (Ob) :=
  ck (inb z1 1002) <|
  lt (oA SM 4 (Int32.toNatClampNeg z1) z2 : Ob) fun SM_2 =>
  f12_cutAll_265 k17 x1 x2 x5 SM_2
def f12_cutAll_129 (k17 : Int32 → Int32 → Ob → Option (Ob)) (x1 : Int32) (x2 : Int32) (x4 : Int32) (x5 : Int64) (SM : Ob) : Option (Ob) :=
  if (x2 - x4) ≤ 8 then
    (f12_cutAll_148 k17 x1 x2 x5 x1 1 SM)
  else
    (f12_cutAll_148 k17 x1 x2 x5 x1 4 SM)
def f12_cutAll_70 (k17 : Int32 → Int32 → Ob → Option (Ob)) : Nat → Int32 → Int32 → Int32 → Int64 → Ob → Option (Ob)
  | 0, _, _, _, _, _ => none
  | n + 1, x1, x2, x4, x5, SM => if (SM.1 3) ≤ x2 then
    (f12_cutAll_129 k17 x1 x2 x4 x5 SM)
  else
    (ck (inb x2 1000) <|
    bd (f12_isLetter (SM.2.2.1 1 (Int32.toNatClampNeg x2))) fun r_3 =>
    if r_3 = 0 then
      (f12_cutAll_129 k17 x1 x2 x4 x5 SM)
    else
      (if 8 ≤ (x2 - x4) then
        (f12_cutAll_121 k17 (f12_cutAll_70 k17 n) x1 x2 x4 x5 SM)
      else
        (ck (inb x2 1000) <|
        bd (f12_rank (SM.2.2.1 1 (Int32.toNatClampNeg x2))) fun r_8 =>
        f12_cutAll_121 k17 (f12_cutAll_70 k17 n) x1 x2 x4 ((37 * x5) + (Int32.toInt64 r_8)) SM)))
def f12_cutAll_210 (k17 : Int32 → Int32 → Ob → Option (Ob)) (k159 : Int32 → Int32 → Int32 → Int64 → Ob → Option (Ob)) (x1 : Int32) (x2 : Int32) (x4 : Int32) (z0 : Int64) (SM : Ob) : Option (Ob) :=
  lt (x2 + 1 : Int32) fun x2_1 =>
  k159 x1 x2_1 x4 z0 SM
def f12_cutAll_236 (k17 : Int32 → Int32 → Ob → Option (Ob)) (x1 : Int32) (x2 : Int32) (x5 : Int64) (z1 : Int32) (z2 : Int32) (SM : Ob) : Option (Ob) :=
  ck (inb z1 1002) <|
  lt (oA SM 4 (Int32.toNatClampNeg z1) z2 : Ob) fun SM_2 =>
  f12_cutAll_265 k17 x1 x2 x5 SM_2
def f12_cutAll_218 (k17 : Int32 → Int32 → Ob → Option (Ob)) (x1 : Int32) (x2 : Int32) (x4 : Int32) (x5 : Int64) (SM : Ob) : Option (Ob) :=
  if (x2 - x4) ≤ 4 then
    (f12_cutAll_236 k17 x1 x2 x5 x1 2 SM)
  else
    (f12_cutAll_236 k17 x1 x2 x5 x1 4 SM)
def f12_cutAll_159 (k17 : Int32 → Int32 → Ob → Option (Ob)) : Nat → Int32 → Int32 → Int32 → Int64 → Ob → Option (Ob)
  | 0, _, _, _, _, _ => none
  | n + 1, x1, x2, x4, x5, SM => if (SM.1 3) ≤ x2 then
    (f12_cutAll_218 k17 x1 x2 x4 x5 SM)
  else
    (ck (inb x2 1000) <|
    bd (f12_isDigit (SM.2.2.1 1 (Int32.toNatClampNeg x2))) fun r_3 =>
    if r_3 = 0 then
      (f12_cutAll_218 k17 x1 x2 x4 x5 SM)
    else
      (if 4 ≤ (x2 - x4) then
        (f12_cutAll_210 k17 (f12_cutAll_159 k17 n) x1 x2 x4 x5 SM)
      else
        (ck (inb x2 1000) <|
        f12_cutAll_210 k17 (f12_cutAll_159 k17 n) x1 x2 x4 (((10 * x5) + (Int32.toInt64 (SM.2.2.1 1 (Int32.toNatClampNeg x2)))) - 48) SM)))
def f12_cutAll_261 (k17 : Int32 → Int32 → Ob → Option (Ob)) (x1 : Int32) (x2 : Int32) (x5 : Int64) (z1 : Int32) (z2 : Int32) (SM : Ob) : Option (Ob) :=
  ck (inb z1 1002) <|
  lt (oA SM 4 (Int32.toNatClampNeg z1) z2 : Ob) fun SM_2 =>
  lt (x2 + 1 : Int32) fun x2_3 =>
  f12_cutAll_265 k17 x1 x2_3 x5 SM_2
def f12_cutAll_17 : Nat → Int32 → Int32 → Ob → Option (Ob)
  | 0, _, _, _ => none
  | n + 1, x1, x2, SM => if (SM.1 3) ≤ x2 then
    (ck (inb x1 1002) <|
    lt (oA SM 4 (Int32.toNatClampNeg x1) 0 : Ob) fun SM_3 =>
    ck (inb x1 1002) <|
    lt (oA SM_3 5 (Int32.toNatClampNeg x1) (SM_3.1 3) : Ob) fun SM_5 =>
    lt (oI SM_5 7 0 : Ob) fun SM_6 =>
    lt (oI SM_6 8 0 : Ob) fun SM_7 =>
    some SM_7)
  else
    (ck (inb x2 1000) <|
    lt (SM.2.2.1 1 (Int32.toNatClampNeg x2) : Int32) fun x3_9 =>
    if x3_9 = 10 then
      (f12_cutAll_44 (f12_cutAll_17 n) x1 x2 SM)
    else
      (if x3_9 = 32 then
        (f12_cutAll_44 (f12_cutAll_17 n) x1 x2 SM)
      else
        (ck (inb x1 1002) <|
        lt (oA SM 5 (Int32.toNatClampNeg x1) x2 : Ob) fun SM_13 =>
        bd (f12_isLetter x3_9) fun r_14 =>
        if r_14 = 0 then
          (bd (f12_isDigit x3_9) fun r_17 =>
          if r_17 = 0 then
            (lt (Int32.toInt64 x3_9 : Int64) fun x5_20 =>
            bd (f12_isSignOf x3_9) fun r_21 =>
            if r_21 = 0 then
              (f12_cutAll_261 (f12_cutAll_17 n) x1 x2 x5_20 x1 4 SM_13)
            else
              (f12_cutAll_261 (f12_cutAll_17 n) x1 x2 x5_20 x1 3 SM_13))
          else
            (f12_cutAll_159 (f12_cutAll_17 n) FU x1 x2 x2 0 SM_13))
        else
          (f12_cutAll_70 (f12_cutAll_17 n) FU x1 x2 x2 0 SM_13))))
def f12_cutAll (SM : Ob) : Option (Ob) :=
  lt (oI SM 3 (SM.1 2) : Ob) fun SM_1 =>
  lt (oI SM_1 2 0 : Ob) fun SM_2 =>
  f12_cutAll_17 FU 0 0 SM_2
def f12_wrong_25 (SM : Ob) : Option (Ob) :=
  some SM
def f12_wrong (x1 : Int32) (SM : Ob) : Option (Ob) :=
  if (SM.1 8) = 0 then
    (ck (inb (SM.1 7) 1002) <|
    lt (oI SM 8 (x1 + (16 * (SM.2.2.1 5 (Int32.toNatClampNeg (SM.1 7))))) : Ob) fun SM_3 =>
    f12_wrong_25 SM_3)
  else
    (f12_wrong_25 SM)
def f12_isSign_40 (z0 : Int32) (SM : Ob) : Option (Int32) :=
  ck (isz z0) (some z0)
def f12_isSign_39 (SM : Ob) : Option (Int32) :=
  f12_isSign_40 0 SM
def f12_isSign (x1 : Int32) (SM : Ob) : Option (Int32) :=
  if (SM.1 8) = 0 then
    (ck (inb (SM.1 7) 1002) <|
    if (SM.2.2.1 4 (Int32.toNatClampNeg (SM.1 7))) = 3 then
      (ck (inb (SM.1 7) 1002) <|
      if (lg_cmp (SM.2.2.2 6 (Int32.toNatClampNeg (SM.1 7))) (Int32.toInt64 x1)) = 0 then
        (f12_isSign_40 1 SM)
      else
        (f12_isSign_39 SM))
    else
      (f12_isSign_39 SM))
  else
    (f12_isSign_39 SM)
def f12_isWord_44 (z0 : Int32) (SM : Ob) : Option (Int32) :=
  ck (isz z0) (some z0)
def f12_isWord_43 (SM : Ob) : Option (Int32) :=
  f12_isWord_44 0 SM
def f12_isWord (x1 : Int32) (SM : Ob) : Option (Int32) :=
  if (SM.1 8) = 0 then
    (ck (inb (SM.1 7) 1002) <|
    if (SM.2.2.1 4 (Int32.toNatClampNeg (SM.1 7))) = 1 then
      (ck (inb (SM.1 7) 1002) <|
      ck (inb x1 32) <|
      if (lg_cmp (SM.2.2.2 6 (Int32.toNatClampNeg (SM.1 7))) (SM.2.2.2 9 (Int32.toNatClampNeg x1))) = 0 then
        (f12_isWord_44 1 SM)
      else
        (f12_isWord_43 SM))
    else
      (f12_isWord_43 SM))
  else
    (f12_isWord_43 SM)
def f12_takeSign_26 (SM : Ob) : Option (Ob) :=
  some SM
def f12_takeSign (x1 : Int32) (SM : Ob) : Option (Ob) :=
  bd (f12_isSign x1 SM) fun r_1 =>
  if r_1 = 0 then
    (bd (f12_wrong 1 SM) fun r_4 =>
    f12_takeSign_26 r_4)
  else
    (lt (oI SM 7 ((SM.1 7) + 1) : Ob) fun SM_6 =>
    f12_takeSign_26 SM_6)
def f12_hasSign_20 (x2 : Int32) (z1 : Int32) (z2 : Int32) (SM : Ob) : Option (Int32 × Ob) :=
  lt (oI SM 7 (z1 + z2) : Ob) fun SM_1 =>
  ck (isz x2) (some (x2, SM_1))
def f12_hasSign (x1 : Int32) (SM : Ob) : Option (Int32 × Ob) :=
  bd (f12_isSign x1 SM) fun r_1 =>
  if r_1 = 0 then
    (f12_hasSign_20 r_1 (SM.1 7) 0 SM)
  else
    (f12_hasSign_20 r_1 (SM.1 7) 1 SM)
/-! 12.m02.lean.txt -/
def f12_hasWord_20 (x2 : Int32) (z1 : Int32) (z2 : Int32) (SM : Ob) : Option (Int32 × Ob) :=
  lt (oI SM 7 (z1 + z2) : Ob) fun SM_1 =>
  ck (isz x2) (some (x2, SM_1))
def f12_hasWord (x1 : Int32) (SM : Ob) : Option (Int32 × Ob) :=
  bd (f12_isWord x1 SM) fun r_1 =>
  if r_1 = 0 then
    (f12_hasWord_20 r_1 (SM.1 7) 0 SM)
  else
    (f12_hasWord_20 r_1 (SM.1 7) 1 SM)
def f12_takeWord_13 (SM : Ob) : Option (Ob) :=
  some SM
def f12_takeWord (x1 : Int32) (SM : Ob) : Option (Ob) :=
  bd (f12_hasWord x1 SM) fun r_1 =>
  if (r_1.1) = 0 then
    (bd (f12_wrong 1 (r_1.2)) fun r_4 =>
    f12_takeWord_13 r_4)
  else
    (f12_takeWord_13 (r_1.2))
def f12_within_15 (z0 : Int32) : Option (Int32) :=
  ck (isz z0) (some z0)
def f12_within_14 : Option (Int32) :=
  f12_within_15 0
def f12_within (x0 : Int32) (x1 : Int32) (x2 : Int32) : Option (Int32) :=
  if x0 < x1 then
    (f12_within_14 )
  else
    (if x2 < x0 then
      (f12_within_14 )
    else
      (f12_within_15 1))
def f12_takeNumber_70 (SM : Ob) : Option (Int32 × Ob) :=
  if (SM.1 8) ≤ 0 then
    (lt (oI SM 7 ((SM.1 7) + 1) : Ob) fun SM_2 =>
    ck (inb ((SM_2.1 7) - 1) 1002) <|
    some (Int64.toInt32 (SM_2.2.2.2 6 (Int32.toNatClampNeg ((SM_2.1 7) - 1))), SM_2))
  else
    (some (0, SM))
def f12_takeNumber_65 (SM : Ob) : Option (Int32 × Ob) :=
  bd (f12_wrong 4 SM) fun r_1 =>
  f12_takeNumber_70 r_1
def f12_takeNumber_28 (x1 : Int32) (x2 : Int32) (SM : Ob) : Option (Int32 × Ob) :=
  if (SM.1 8) = 0 then
    (ck (inb (SM.1 7) 1002) <|
    if (lg_cmp (SM.2.2.2 6 (Int32.toNatClampNeg (SM.1 7))) (Int32.toInt64 x1)) < 0 then
      (f12_takeNumber_65 SM)
    else
      (ck (inb (SM.1 7) 1002) <|
      if (lg_cmp (SM.2.2.2 6 (Int32.toNatClampNeg (SM.1 7))) (Int32.toInt64 x2)) ≤ 0 then
        (f12_takeNumber_70 SM)
      else
        (f12_takeNumber_65 SM)))
  else
    (f12_takeNumber_70 SM)
def f12_takeNumber (x1 : Int32) (x2 : Int32) (SM : Ob) : Option (Int32 × Ob) :=
  if (SM.1 8) = 0 then
    (ck (inb (SM.1 7) 1002) <|
    if (SM.2.2.1 4 (Int32.toNatClampNeg (SM.1 7))) = 2 then
      (f12_takeNumber_28 x1 x2 SM)
    else
      (bd (f12_wrong 1 SM) fun r_4 =>
      f12_takeNumber_70 r_4))
  else
    (f12_takeNumber_28 x1 x2 SM)
def f12_takeAfter (x1 : Int32) (x2 : Int32) (x3 : Int32) (SM : Ob) : Option (Int32 × Ob) :=
  bd (f12_takeWord x1 SM) fun r_1 =>
  bd (f12_takeNumber x2 x3 r_1) fun r_3 =>
  some (r_3.1, r_3.2)
def f12_wordHere_28 (k5 : Int32 → Int32 → Int32 → Int32 → Ob → Option (Int32)) (x1 : Int32) (x2 : Int32) (x4 : Int32) (z0 : Int32) (SM : Ob) : Option (Int32) :=
  lt (x4 + 1 : Int32) fun x4_1 =>
  k5 x1 x2 z0 x4_1 SM
def f12_wordHere_5 : Nat → Int32 → Int32 → Int32 → Int32 → Ob → Option (Int32)
  | 0, _, _, _, _, _ => none
  | n + 1, x1, x2, x3, x4, SM => if x2 ≤ x4 then
    (some x3)
  else
    (bd (f12_isWord (x1 + x4) SM) fun r_2 =>
    if r_2 = 0 then
      (f12_wordHere_28 (f12_wordHere_5 n) x1 x2 x4 x3 SM)
    else
      (f12_wordHere_28 (f12_wordHere_5 n) x1 x2 x4 x4 SM))
def f12_wordHere (x1 : Int32) (x2 : Int32) (SM : Ob) : Option (Int32) :=
  f12_wordHere_5 FU x1 x2 (-1) 0 SM
def f12_takeOne_67 (z0 : Int32) (SM : Ob) : Option (Int32 × Ob) :=
  some (z0, SM)
def f12_takeOne_51 (x3 : Int32) (z1 : Int32) (z2 : Int32) (SM : Ob) : Option (Int32 × Ob) :=
  lt (oI SM 7 (z1 + z2) : Ob) fun SM_1 =>
  if (SM_1.1 8) ≤ 0 then
    (f12_takeOne_67 x3 SM_1)
  else
    (f12_takeOne_67 0 SM_1)
def f12_takeOne_34 (x3 : Int32) (SM : Ob) : Option (Int32 × Ob) :=
  if (SM.1 8) ≤ 0 then
    (f12_takeOne_51 x3 (SM.1 7) 1 SM)
  else
    (f12_takeOne_51 x3 (SM.1 7) 0 SM)
def f12_takeOne_17 (z0 : Int32) (SM : Ob) : Option (Int32 × Ob) :=
  if (SM.1 8) = 0 then
    (if 0 ≤ z0 then
      (f12_takeOne_34 z0 SM)
    else
      (bd (f12_wrong 1 SM) fun r_3 =>
      f12_takeOne_34 z0 r_3))
  else
    (f12_takeOne_34 z0 SM)
def f12_takeOne (x1 : Int32) (x2 : Int32) (SM : Ob) : Option (Int32 × Ob) :=
  if (SM.1 8) ≤ 0 then
    (bd (f12_wordHere x1 x2 SM) fun r_2 =>
    f12_takeOne_17 r_2 SM)
  else
    (f12_takeOne_17 (-1) SM)
def f12_isName_35 (z0 : Int32) (SM : Ob) : Option (Int32) :=
  ck (isz z0) (some z0)
def f12_isName_34 (SM : Ob) : Option (Int32) :=
  f12_isName_35 0 SM
def f12_isName (SM : Ob) : Option (Int32) :=
  if (SM.1 8) = 0 then
    (ck (inb (SM.1 7) 1002) <|
    if (SM.2.2.1 4 (Int32.toNatClampNeg (SM.1 7))) = 1 then
      (bd (f12_wordHere 0 29 SM) fun r_4 =>
      if 0 ≤ r_4 then
        (f12_isName_34 SM)
      else
        (f12_isName_35 1 SM))
    else
      (f12_isName_34 SM))
  else
    (f12_isName_34 SM)
def f12_find_81 (z0 : Int32) (SM : Ob) : Option (Int32) :=
  some z0
def f12_find_46 (k2 : Int32 → Ob → Option (Int32)) (x1 : Int32) (z0 : Int64) (SM : Ob) : Option (Int32) :=
  ck (inb (SM.1 7) 1002) <|
  if (lg_cmp z0 (SM.2.2.2 6 (Int32.toNatClampNeg (SM.1 7)))) = 0 then
    (if (SM.1 20) = 0 then
      (ck (inb x1 14) <|
      f12_find_81 (SM.2.2.1 16 (Int32.toNatClampNeg x1)) SM)
    else
      (ck (inb x1 14) <|
      f12_find_81 (SM.2.2.1 17 (Int32.toNatClampNeg x1)) SM))
  else
    (lt (x1 + 1 : Int32) fun x1_3 =>
    k2 x1_3 SM)
def f12_find_21 (k2 : Int32 → Ob → Option (Int32)) (x1 : Int32) (z0 : Int32) (z1 : Int32) (SM : Ob) : Option (Int32) :=
  if z1 ≤ z0 then
    (some (-1))
  else
    (if (SM.1 20) = 0 then
      (ck (inb x1 14) <|
      f12_find_46 k2 x1 (SM.2.2.2 14 (Int32.toNatClampNeg x1)) SM)
    else
      (ck (inb x1 14) <|
      f12_find_46 k2 x1 (SM.2.2.2 15 (Int32.toNatClampNeg x1)) SM))
def f12_find_2 : Nat → Int32 → Ob → Option (Int32)
  | 0, _, _ => none
  | n + 1, x1, SM => if (SM.1 20) = 0 then
    (f12_find_21 (f12_find_2 n) x1 x1 (SM.1 18) SM)
  else
    (f12_find_21 (f12_find_2 n) x1 x1 (SM.1 19) SM)
def f12_find (SM : Ob) : Option (Int32) :=
  f12_find_2 FU 0 SM
def f12_toldHere_72 (z0 : Int32) (SM : Ob) : Option (Int32 × Ob) :=
  some (z0, SM)
def f12_toldHere_60 (x3 : Int32) (SM : Ob) : Option (Int32 × Ob) :=
  if (SM.1 8) ≤ 0 then
    (f12_toldHere_72 x3 SM)
  else
    (f12_toldHere_72 0 SM)
def f12_toldHere_36 (x2 : Int32) (z0 : Int32) (SM : Ob) : Option (Int32 × Ob) :=
  if (SM.1 8) = 0 then
    (bd (f12_within z0 0 (x2 - 1)) fun r_2 =>
    if r_2 = 0 then
      (bd (f12_wrong 2 SM) fun r_5 =>
      f12_toldHere_60 z0 r_5)
    else
      (f12_toldHere_60 z0 SM))
  else
    (f12_toldHere_60 z0 SM)
def f12_toldHere_19 (x1 : Int32) (x2 : Int32) (SM : Ob) : Option (Int32 × Ob) :=
  if (SM.1 8) ≤ 0 then
    (bd (f12_find SM) fun r_2 =>
    f12_toldHere_36 x2 (r_2 - x1) SM)
  else
    (f12_toldHere_36 x2 (-1) SM)
def f12_toldHere (x1 : Int32) (x2 : Int32) (SM : Ob) : Option (Int32 × Ob) :=
  if (SM.1 8) = 0 then
    (bd (f12_isName SM) fun r_2 =>
    if r_2 = 0 then
      (bd (f12_wrong 1 SM) fun r_5 =>
      f12_toldHere_19 x1 x2 r_5)
    else
      (f12_toldHere_19 x1 x2 SM))
  else
    (f12_toldHere_19 x1 x2 SM)
def f12_takeTold_24 (x3 : Int32) (z1 : Int32) (z2 : Int32) (SM : Ob) : Option (Int32 × Ob) :=
  lt (oI SM 7 (z1 + z2) : Ob) fun SM_1 =>
  some (x3, SM_1)
def f12_takeTold (x1 : Int32) (x2 : Int32) (SM : Ob) : Option (Int32 × Ob) :=
  bd (f12_toldHere x1 x2 SM) fun r_1 =>
  lt (r_1.1 : Int32) fun x3_3 =>
  if ((r_1.2).1 8) ≤ 0 then
    (f12_takeTold_24 x3_3 ((r_1.2).1 7) 1 (r_1.2))
  else
    (f12_takeTold_24 x3_3 ((r_1.2).1 7) 0 (r_1.2))
def f12_readName_92 (SM : Ob) : Option (Ob) :=
  some SM
def f12_readName_37 (x1 : Int32) (SM : Ob) : Option (Ob) :=
  if (SM.1 8) = 0 then
    (ck (inb (SM.1 7) 1002) <|
    ck (inb (SM.1 19) 14) <|
    lt (oJ SM 15 (Int32.toNatClampNeg (SM.1 19)) (SM.2.2.2 6 (Int32.toNatClampNeg (SM.1 7))) : Ob) fun SM_4 =>
    ck (inb (SM_4.1 19) 14) <|
    lt (oA SM_4 17 (Int32.toNatClampNeg (SM_4.1 19)) x1 : Ob) fun SM_6 =>
    lt (oI SM_6 19 ((SM_6.1 19) + 1) : Ob) fun SM_7 =>
    lt (oI SM_7 7 ((SM_7.1 7) + 1) : Ob) fun SM_8 =>
    f12_readName_92 SM_8)
  else
    (f12_readName_92 SM)
def f12_readName (x1 : Int32) (SM : Ob) : Option (Ob) :=
  lt (oI SM 7 ((SM.1 7) + 1) : Ob) fun SM_1 =>
  bd (f12_isName SM_1) fun r_2 =>
  if r_2 = 0 then
    (bd (f12_wrong 1 SM_1) fun r_10 =>
    f12_readName_37 x1 r_10)
  else
    (bd (f12_find SM_1) fun r_5 =>
    if r_5 < 0 then
      (f12_readName_37 x1 SM_1)
    else
      (bd (f12_wrong 3 SM_1) fun r_8 =>
      f12_readName_37 x1 r_8))
def f12_readGuest (SM : Ob) : Option (Ob) :=
  ck (inb 60 120) <|
  lt (SM.2.2.1 10 (Int32.toNatClampNeg 60) : Int32) fun x1_2 =>
  if x1_2 = 8 then
    (bd (f12_wrong 5 SM) fun r_22 =>
    some r_22)
  else
    (bd (f12_readName x1_2 SM) fun r_4 =>
    lt (63 + (5 * x1_2) : Int32) fun x2_6 =>
    bd (f12_takeOne 14 4 r_4) fun r_7 =>
    ck (inb x2_6 120) <|
    lt (oA (r_7.2) 10 (Int32.toNatClampNeg x2_6) (r_7.1) : Ob) fun SM_10 =>
    bd (f12_takeAfter 1 1 12 SM_10) fun r_11 =>
    ck (inb (x2_6 + 1) 120) <|
    lt (oA (r_11.2) 10 (Int32.toNatClampNeg (x2_6 + 1)) (r_11.1) : Ob) fun SM_14 =>
    bd (f12_takeAfter 2 1 99 SM_14) fun r_15 =>
    ck (inb (x2_6 + 2) 120) <|
    lt (oA (r_15.2) 10 (Int32.toNatClampNeg (x2_6 + 2)) (r_15.1) : Ob) fun SM_18 =>
    ck (inb 60 120) <|
    ck (inb 60 120) <|
    lt (oA SM_18 10 (Int32.toNatClampNeg 60) ((SM_18.2.2.1 10 (Int32.toNatClampNeg 60)) + 1) : Ob) fun SM_21 =>
    some SM_21)
def f12_emit (x1 : Int32) (x2 : Int32) (SM : Ob) : Option (Ob) :=
  ck (inb (2200 + (SM.1 13)) 3300) <|
  lt (oA SM 11 (Int32.toNatClampNeg (2200 + (SM.1 13))) x1 : Ob) fun SM_2 =>
  ck (inb (2200 + (SM_2.1 13)) 3300) <|
  lt (oA SM_2 12 (Int32.toNatClampNeg (2200 + (SM_2.1 13))) x2 : Ob) fun SM_4 =>
  lt (oI SM_4 13 ((SM_4.1 13) + 1) : Ob) fun SM_5 =>
  some SM_5
/-! 13.m03.lean.txt -/
def f12_both0_5 (rec : Int32 → Ob → Option (Ob)) : Nat → Int32 → Ob → Option (Ob)
  | 0, _, _ => none
  | n + 1, x1, SM => bd (f12_hasWord 27 SM) fun r_1 =>
  if (r_1.1) = 0 then
    (some r_1.2)
  else
    (bd (rec x1 (r_1.2)) fun r_4 =>
    bd (f12_emit 9 0 r_4) fun r_6 =>
    f12_both0_5 rec n x1 r_6)
def f12_both0 (rec : Int32 → Ob → Option (Ob)) (x1 : Int32) (SM : Ob) : Option (Ob) :=
  bd (rec x1 SM) fun r_1 =>
  f12_both0_5 rec FU x1 r_1
def f12_either_5 (rec : Int32 → Ob → Option (Ob)) : Nat → Int32 → Ob → Option (Ob)
  | 0, _, _ => none
  | n + 1, x1, SM => bd (f12_hasWord 28 SM) fun r_1 =>
  if (r_1.1) = 0 then
    (some r_1.2)
  else
    (bd (f12_both0 rec x1 (r_1.2)) fun r_4 =>
    bd (f12_emit 10 0 r_4) fun r_6 =>
    f12_either_5 rec n x1 r_6)
def f12_either (rec : Int32 → Ob → Option (Ob)) (x1 : Int32) (SM : Ob) : Option (Ob) :=
  bd (f12_both0 rec x1 SM) fun r_1 =>
  f12_either_5 rec FU x1 r_1
def f12_item_208 (rec : Int32 → Ob → Option (Ob)) (SM : Ob) : Option (Ob) :=
  some SM
def f12_item_195 (rec : Int32 → Ob → Option (Ob)) (z1 : Int32) (z2 : Int32) (SM : Ob) : Option (Ob) :=
  bd (f12_emit z1 z2 SM) fun r_1 =>
  lt (oI r_1 7 ((r_1.1 7) + 1) : Ob) fun SM_3 =>
  f12_item_208 rec SM_3
def f12_item_185 (rec : Int32 → Ob → Option (Ob)) (x3 : Int32) (x4 : Int32) (z1 : Int32) (SM : Ob) : Option (Ob) :=
  if x3 < 0 then
    (f12_item_195 rec z1 x4 SM)
  else
    (f12_item_195 rec z1 x3 SM)
def f12_item_117 (rec : Int32 → Ob → Option (Ob)) (x1 : Int32) (x3 : Int32) (x4 : Int32) (SM : Ob) : Option (Ob) :=
  if (SM.1 8) ≤ 0 then
    (bd (f12_hasWord 26 SM) fun r_2 =>
    if (r_2.1) = 0 then
      (bd (f12_hasSign 40 (r_2.2)) fun r_5 =>
      if (r_5.1) = 0 then
        (if x3 < 0 then
          (f12_item_185 rec x3 x4 1 (r_5.2))
        else
          (f12_item_185 rec x3 x4 2 (r_5.2)))
      else
        (bd (f12_either rec (x1 + 1) (r_5.2)) fun r_9 =>
        bd (f12_takeSign 41 r_9) fun r_11 =>
        f12_item_208 rec r_11))
    else
      (bd (rec (x1 + 1) (r_2.2)) fun r_13 =>
      bd (f12_emit 3 0 r_13) fun r_15 =>
      f12_item_208 rec r_15))
  else
    (some SM)
def f12_item_107 (rec : Int32 → Ob → Option (Ob)) (x1 : Int32) (x3 : Int32) (x4 : Int32) (SM : Ob) : Option (Ob) :=
  if x1 = 5 then
    (bd (f12_wrong 5 SM) fun r_2 =>
    f12_item_117 rec x1 x3 x4 r_2)
  else
    (f12_item_117 rec x1 x3 x4 SM)
def f12_item_66 (rec : Int32 → Ob → Option (Ob)) (x1 : Int32) (x2 : Int32) (x3 : Int32) (z0 : Int32) (SM : Ob) : Option (Ob) :=
  if x2 = 0 then
    (f12_item_107 rec x1 x3 z0 SM)
  else
    (bd (f12_within z0 0 7) fun r_2 =>
    if r_2 = 0 then
      (bd (f12_within z0 20 ((SM.1 21) - 1)) fun r_5 =>
      if r_5 = 0 then
        (bd (f12_wrong 2 SM) fun r_8 =>
        f12_item_117 rec x1 x3 z0 r_8)
      else
        (f12_item_107 rec x1 x3 z0 SM))
    else
      (f12_item_107 rec x1 x3 z0 SM))
def f12_item_54 (rec : Int32 → Ob → Option (Ob)) (x1 : Int32) (x2 : Int32) (x3 : Int32) (SM : Ob) : Option (Ob) :=
  if x2 = 0 then
    (f12_item_66 rec x1 x2 x3 0 SM)
  else
    (bd (f12_find SM) fun r_2 =>
    f12_item_66 rec x1 x2 x3 r_2 SM)
def f12_item_b (rec : Int32 → Ob → Option (Ob)) (x1 : Int32) (SM : Ob) : Option (Ob) :=
  if (SM.1 8) ≤ 0 then
    (bd (f12_isName SM) fun r_2 =>
    bd (f12_wordHere 18 8 SM) fun r_4 =>
    if r_2 = 0 then
      (if 0 ≤ r_4 then
        (f12_item_54 rec x1 r_2 r_4 SM)
      else
        (bd (f12_isSign 40 SM) fun r_8 =>
        if r_8 = 0 then
          (bd (f12_isWord 26 SM) fun r_11 =>
          if r_11 = 0 then
            (bd (f12_wrong 1 SM) fun r_14 =>
            some r_14)
          else
            (f12_item_54 rec x1 r_2 r_4 SM))
        else
          (f12_item_54 rec x1 r_2 r_4 SM)))
    else
      (f12_item_54 rec x1 r_2 r_4 SM))
  else
    (some SM)
def f12_item : Nat → Int32 → Ob → Option (Ob)
  | 0, _, _ => none
  | dp + 1, x1, SM => f12_item_b (f12_item dp) x1 SM
/-! 14.m04.lean.txt -/
def f12_readSign (SM : Ob) : Option (Ob) :=
  ck (inb 61 120) <|
  lt (SM.2.2.1 10 (Int32.toNatClampNeg 61) : Int32) fun x1_2 =>
  if x1_2 = 6 then
    (bd (f12_wrong 5 SM) fun r_23 =>
    some r_23)
  else
    (bd (f12_readName (20 + x1_2) SM) fun r_4 =>
    lt (103 + (2 * x1_2) : Int32) fun x2_6 =>
    bd (f12_takeAfter 4 0 10 r_4) fun r_7 =>
    ck (inb x2_6 120) <|
    lt (oA (r_7.2) 10 (Int32.toNatClampNeg x2_6) (r_7.1) : Ob) fun SM_10 =>
    bd (f12_takeWord 5 SM_10) fun r_11 =>
    ck (inb (x2_6 + 1) 120) <|
    lt (oA r_11 10 (Int32.toNatClampNeg (x2_6 + 1)) (r_11.1 13) : Ob) fun SM_14 =>
    lt (oI SM_14 21 (20 + x1_2) : Ob) fun SM_15 =>
    bd (f12_either (f12_item DP) 0 SM_15) fun r_16 =>
    bd (f12_emit 0 0 r_16) fun r_18 =>
    ck (inb 61 120) <|
    ck (inb 61 120) <|
    lt (oA r_18 10 (Int32.toNatClampNeg 61) ((r_18.2.2.1 10 (Int32.toNatClampNeg 61)) + 1) : Ob) fun SM_22 =>
    some SM_22)
def f12_readSees_123 (k82 : Int32 → Int32 → Ob → Option (Ob)) (x2 : Int32) (x4 : Int32) (SM : Ob) : Option (Ob) :=
  if (SM.1 8) ≤ 0 then
    (ck (inb x2 120) <|
    ck (inb x2 120) <|
    lt (oA SM 10 (Int32.toNatClampNeg x2) ((SM.2.2.1 10 (Int32.toNatClampNeg x2)) ||| (1 <<< (x4 &&& 31))) : Ob) fun SM_4 =>
    lt (oI SM_4 7 ((SM_4.1 7) + 1) : Ob) fun SM_5 =>
    bd (f12_isName SM_5) fun r_6 =>
    k82 x2 r_6 SM_5)
  else
    (some SM)
def f12_readSees_82 : Nat → Int32 → Int32 → Ob → Option (Ob)
  | 0, _, _, _ => none
  | n + 1, x2, x3, SM => if x3 = 0 then
    (some SM)
  else
    (bd (f12_toldHere 20 6 SM) fun r_2 =>
    lt (r_2.1 : Int32) fun x4_4 =>
    if ((r_2.2).1 8) = 0 then
      (ck (inb x2 120) <|
      if ((((r_2.2).2.2.1 10 (Int32.toNatClampNeg x2)) >>> (x4_4 &&& 31)) &&& 1) = 1 then
        (bd (f12_wrong 3 (r_2.2)) fun r_8 =>
        f12_readSees_123 (f12_readSees_82 n) x2 x4_4 r_8)
      else
        (f12_readSees_123 (f12_readSees_82 n) x2 x4_4 (r_2.2)))
    else
      (f12_readSees_123 (f12_readSees_82 n) x2 x4_4 (r_2.2)))
def f12_readSees_81 (x2 : Int32) (z0 : Int32) (SM : Ob) : Option (Ob) :=
  f12_readSees_82 FU x2 z0 SM
def f12_readSees_65 (x2 : Int32) (z1 : Int32) (z2 : Int32) (SM : Ob) : Option (Ob) :=
  lt (oI SM 7 (z1 + z2) : Ob) fun SM_1 =>
  if (SM_1.1 8) = 0 then
    (f12_readSees_81 x2 1 SM_1)
  else
    (f12_readSees_81 x2 0 SM_1)
def f12_readSees_48 (x2 : Int32) (SM : Ob) : Option (Ob) :=
  if (SM.1 8) ≤ 0 then
    (f12_readSees_65 x2 (SM.1 7) 1 SM)
  else
    (f12_readSees_65 x2 (SM.1 7) 0 SM)
def f12_readSees (SM : Ob) : Option (Ob) :=
  lt (oI SM 7 ((SM.1 7) + 1) : Ob) fun SM_1 =>
  bd (f12_toldHere 0 8 SM_1) fun r_2 =>
  lt (r_2.1 : Int32) fun x1_4 =>
  lt ((63 + (5 * x1_4)) + 3 : Int32) fun x2_5 =>
  if ((r_2.2).1 8) = 0 then
    (ck (inb x2_5 120) <|
    if ((r_2.2).2.2.1 10 (Int32.toNatClampNeg x2_5)) ≤ 0 then
      (f12_readSees_48 x2_5 (r_2.2))
    else
      (bd (f12_wrong 3 (r_2.2)) fun r_9 =>
      f12_readSees_48 x2_5 r_9))
  else
    (f12_readSees_48 x2_5 (r_2.2))
def f12_readShun_119 (SM : Ob) : Option (Ob) :=
  some SM
def f12_readShun_64 (x1 : Int32) (x2 : Int32) (SM : Ob) : Option (Ob) :=
  if (SM.1 8) = 0 then
    (lt (oI SM 7 ((SM.1 7) + 1) : Ob) fun SM_2 =>
    ck (inb ((63 + (5 * x1)) + 4) 120) <|
    ck (inb ((63 + (5 * x1)) + 4) 120) <|
    lt (oA SM_2 10 (Int32.toNatClampNeg ((63 + (5 * x1)) + 4)) ((SM_2.2.2.1 10 (Int32.toNatClampNeg ((63 + (5 * x1)) + 4))) ||| (1 <<< (x2 &&& 31))) : Ob) fun SM_5 =>
    ck (inb ((63 + (5 * x2)) + 4) 120) <|
    ck (inb ((63 + (5 * x2)) + 4) 120) <|
    lt (oA SM_5 10 (Int32.toNatClampNeg ((63 + (5 * x2)) + 4)) ((SM_5.2.2.1 10 (Int32.toNatClampNeg ((63 + (5 * x2)) + 4))) ||| (1 <<< (x1 &&& 31))) : Ob) fun SM_8 =>
    f12_readShun_119 SM_8)
  else
    (f12_readShun_119 SM)
def f12_readShun_59 (x1 : Int32) (x2 : Int32) (SM : Ob) : Option (Ob) :=
  bd (f12_wrong 3 SM) fun r_1 =>
  f12_readShun_64 x1 x2 r_1
def f12_readShun (SM : Ob) : Option (Ob) :=
  lt (oI SM 7 ((SM.1 7) + 1) : Ob) fun SM_1 =>
  bd (f12_takeTold 0 8 SM_1) fun r_2 =>
  lt (r_2.1 : Int32) fun x1_4 =>
  bd (f12_toldHere 0 8 (r_2.2)) fun r_5 =>
  lt (r_5.1 : Int32) fun x2_7 =>
  if ((r_5.2).1 8) = 0 then
    (if x1_4 = x2_7 then
      (f12_readShun_59 x1_4 x2_7 (r_5.2))
    else
      (ck (inb ((63 + (5 * x1_4)) + 4) 120) <|
      if ((((r_5.2).2.2.1 10 (Int32.toNatClampNeg ((63 + (5 * x1_4)) + 4))) >>> (x2_7 &&& 31)) &&& 1) = 1 then
        (f12_readShun_59 x1_4 x2_7 (r_5.2))
      else
        (f12_readShun_64 x1_4 x2_7 (r_5.2))))
  else
    (f12_readShun_64 x1_4 x2_7 (r_5.2))
/-! 15.m05.lean.txt -/
def f12_products_5 (rec : Int32 → Ob → Option (Ob)) : Nat → Int32 → Ob → Option (Ob)
  | 0, _, _ => none
  | n + 1, x1, SM => bd (f12_hasSign 42 SM) fun r_1 =>
  if (r_1.1) = 0 then
    (some r_1.2)
  else
    (bd (rec x1 (r_1.2)) fun r_4 =>
    bd (f12_emit 6 0 r_4) fun r_6 =>
    f12_products_5 rec n x1 r_6)
def f12_products (rec : Int32 → Ob → Option (Ob)) (x1 : Int32) (SM : Ob) : Option (Ob) :=
  bd (rec x1 SM) fun r_1 =>
  f12_products_5 rec FU x1 r_1
def f12_sums_55 (rec : Int32 → Ob → Option (Ob)) (k5 : Int32 → Ob → Option (Ob)) (x1 : Int32) (z1 : Int32) (SM : Ob) : Option (Ob) :=
  bd (f12_emit z1 0 SM) fun r_1 =>
  k5 x1 r_1
def f12_sums_23 (rec : Int32 → Ob → Option (Ob)) (k5 : Int32 → Ob → Option (Ob)) (x1 : Int32) (SM : Ob) : Option (Ob) :=
  bd (f12_isSign 43 SM) fun r_1 =>
  lt (oI SM 7 ((SM.1 7) + 1) : Ob) fun SM_3 =>
  bd (f12_products rec x1 SM_3) fun r_4 =>
  if r_1 = 0 then
    (f12_sums_55 rec k5 x1 5 r_4)
  else
    (f12_sums_55 rec k5 x1 4 r_4)
def f12_sums_5 (rec : Int32 → Ob → Option (Ob)) : Nat → Int32 → Ob → Option (Ob)
  | 0, _, _ => none
  | n + 1, x1, SM => bd (f12_isSign 43 SM) fun r_1 =>
  if r_1 = 0 then
    (bd (f12_isSign 45 SM) fun r_4 =>
    if r_4 = 0 then
      (some SM)
    else
      (f12_sums_23 rec (f12_sums_5 rec n) x1 SM))
  else
    (f12_sums_23 rec (f12_sums_5 rec n) x1 SM)
def f12_sums (rec : Int32 → Ob → Option (Ob)) (x1 : Int32) (SM : Ob) : Option (Ob) :=
  bd (f12_products rec x1 SM) fun r_1 =>
  f12_sums_5 rec FU x1 r_1
def f12_test_51 (rec : Int32 → Ob → Option (Ob)) (SM : Ob) : Option (Ob) :=
  some SM
def f12_test_47 (rec : Int32 → Ob → Option (Ob)) (z1 : Int32) (SM : Ob) : Option (Ob) :=
  bd (f12_emit z1 0 SM) fun r_1 =>
  f12_test_51 rec r_1
def f12_test_30 (rec : Int32 → Ob → Option (Ob)) (x1 : Int32) (x2 : Int32) (SM : Ob) : Option (Ob) :=
  bd (f12_sums rec x1 SM) fun r_1 =>
  if x2 = 0 then
    (f12_test_47 rec 8 r_1)
  else
    (f12_test_47 rec 7 r_1)
def f12_test (rec : Int32 → Ob → Option (Ob)) (x1 : Int32) (SM : Ob) : Option (Ob) :=
  bd (f12_sums rec x1 SM) fun r_1 =>
  bd (f12_isSign 60 r_1) fun r_3 =>
  bd (f12_hasSign 60 r_1) fun r_5 =>
  if (r_5.1) = 0 then
    (bd (f12_hasSign 61 (r_5.2)) fun r_8 =>
    if (r_8.1) = 0 then
      (f12_test_51 rec (r_8.2))
    else
      (f12_test_30 rec x1 r_3 (r_8.2)))
  else
    (f12_test_30 rec x1 r_3 (r_5.2))
def f12_all_57 (rec : Int32 → Ob → Option (Ob)) (k5 : Int32 → Ob → Option (Ob)) (x1 : Int32) (z1 : Int32) (SM : Ob) : Option (Ob) :=
  bd (f12_emit z1 0 SM) fun r_1 =>
  k5 x1 r_1
def f12_all_23 (rec : Int32 → Ob → Option (Ob)) (k5 : Int32 → Ob → Option (Ob)) (x1 : Int32) (SM : Ob) : Option (Ob) :=
  bd (f12_isWord 27 SM) fun r_1 =>
  lt (oI SM 7 ((SM.1 7) + 1) : Ob) fun SM_3 =>
  bd (f12_test rec x1 SM_3) fun r_4 =>
  if r_1 = 0 then
    (f12_all_57 rec k5 x1 10 r_4)
  else
    (f12_all_57 rec k5 x1 9 r_4)
def f12_all_5 (rec : Int32 → Ob → Option (Ob)) : Nat → Int32 → Ob → Option (Ob)
  | 0, _, _ => none
  | n + 1, x1, SM => bd (f12_isWord 27 SM) fun r_1 =>
  if r_1 = 0 then
    (bd (f12_isWord 28 SM) fun r_4 =>
    if r_4 = 0 then
      (some SM)
    else
      (f12_all_23 rec (f12_all_5 rec n) x1 SM))
  else
    (f12_all_23 rec (f12_all_5 rec n) x1 SM)
def f12_all (rec : Int32 → Ob → Option (Ob)) (x1 : Int32) (SM : Ob) : Option (Ob) :=
  bd (f12_test rec x1 SM) fun r_1 =>
  f12_all_5 rec FU x1 r_1
def f12_takePart_178 (rec : Int32 → Ob → Option (Ob)) (SM : Ob) : Option (Ob) :=
  some SM
def f12_takePart_165 (rec : Int32 → Ob → Option (Ob)) (z1 : Int32) (z2 : Int32) (SM : Ob) : Option (Ob) :=
  bd (f12_emit z1 z2 SM) fun r_1 =>
  lt (oI r_1 7 ((r_1.1 7) + 1) : Ob) fun SM_3 =>
  f12_takePart_178 rec SM_3
def f12_takePart_147 (rec : Int32 → Ob → Option (Ob)) (x2 : Int32) (x3 : Int32) (z1 : Int32) (SM : Ob) : Option (Ob) :=
  if x2 = 0 then
    (f12_takePart_165 rec z1 x3 SM)
  else
    (ck (inb (SM.1 7) 1002) <|
    f12_takePart_165 rec z1 (Int64.toInt32 (SM.2.2.2 6 (Int32.toNatClampNeg (SM.1 7)))) SM)
def f12_takePart_79 (rec : Int32 → Ob → Option (Ob)) (x1 : Int32) (x2 : Int32) (x3 : Int32) (SM : Ob) : Option (Ob) :=
  if (SM.1 8) ≤ 0 then
    (bd (f12_hasWord 26 SM) fun r_2 =>
    if (r_2.1) = 0 then
      (bd (f12_hasSign 40 (r_2.2)) fun r_5 =>
      if (r_5.1) = 0 then
        (if x2 = 0 then
          (f12_takePart_147 rec x2 x3 2 (r_5.2))
        else
          (f12_takePart_147 rec x2 x3 1 (r_5.2)))
      else
        (bd (f12_all rec (x1 + 1) (r_5.2)) fun r_9 =>
        bd (f12_takeSign 41 r_9) fun r_11 =>
        f12_takePart_178 rec r_11))
    else
      (bd (rec (x1 + 1) (r_2.2)) fun r_13 =>
      bd (f12_emit 3 0 r_13) fun r_15 =>
      f12_takePart_178 rec r_15))
  else
    (some SM)
def f12_takePart_69 (rec : Int32 → Ob → Option (Ob)) (x1 : Int32) (x2 : Int32) (x3 : Int32) (SM : Ob) : Option (Ob) :=
  if x1 = 5 then
    (bd (f12_wrong 5 SM) fun r_2 =>
    f12_takePart_79 rec x1 x2 x3 r_2)
  else
    (f12_takePart_79 rec x1 x2 x3 SM)
def f12_takePart_26 (rec : Int32 → Ob → Option (Ob)) (x1 : Int32) (z0 : Int32) (SM : Ob) : Option (Ob) :=
  bd (f12_wordHere 29 3 SM) fun r_1 =>
  if 0 ≤ r_1 then
    (f12_takePart_69 rec x1 z0 r_1 SM)
  else
    (if z0 = 0 then
      (bd (f12_isSign 40 SM) fun r_5 =>
      if r_5 = 0 then
        (bd (f12_isWord 26 SM) fun r_8 =>
        if r_8 = 0 then
          (bd (f12_wrong 1 SM) fun r_11 =>
          f12_takePart_79 rec x1 z0 r_1 r_11)
        else
          (f12_takePart_69 rec x1 z0 r_1 SM))
      else
        (f12_takePart_69 rec x1 z0 r_1 SM))
    else
      (f12_takePart_69 rec x1 z0 r_1 SM))
def f12_takePart_b (rec : Int32 → Ob → Option (Ob)) (x1 : Int32) (SM : Ob) : Option (Ob) :=
  if (SM.1 8) ≤ 0 then
    (ck (inb (SM.1 7) 1002) <|
    if (SM.2.2.1 4 (Int32.toNatClampNeg (SM.1 7))) = 2 then
      (f12_takePart_26 rec x1 1 SM)
    else
      (f12_takePart_26 rec x1 0 SM))
  else
    (some SM)
def f12_takePart : Nat → Int32 → Ob → Option (Ob)
  | 0, _, _ => none
  | dp + 1, x1, SM => f12_takePart_b (f12_takePart dp) x1 SM
/-! 16.m06.lean.txt -/
def f12_readBill_71 (SM : Ob) : Option (Ob) :=
  some SM
def f12_readBill_32 (SM : Ob) : Option (Ob) :=
  if (SM.1 8) = 0 then
    (lt (oI SM 7 ((SM.1 7) + 1) : Ob) fun SM_2 =>
    ck (inb 62 120) <|
    lt (oA SM_2 10 (Int32.toNatClampNeg 62) (SM_2.1 13) : Ob) fun SM_4 =>
    bd (f12_all (f12_takePart DP) 0 SM_4) fun r_5 =>
    bd (f12_emit 0 0 r_5) fun r_7 =>
    f12_readBill_71 r_7)
  else
    (f12_readBill_71 SM)
def f12_readBill (SM : Ob) : Option (Ob) :=
  bd (f12_isWord 8 SM) fun r_1 =>
  if r_1 = 0 then
    (bd (f12_wrong 1 SM) fun r_8 =>
    f12_readBill_32 r_8)
  else
    (ck (inb 62 120) <|
    if (SM.2.2.1 10 (Int32.toNatClampNeg 62)) < 0 then
      (f12_readBill_32 SM)
    else
      (bd (f12_wrong 3 SM) fun r_6 =>
      f12_readBill_32 r_6))
def f12_readLine_66 (SM : Ob) : Option (Ob) :=
  some SM
def f12_readLine (SM : Ob) : Option (Ob) :=
  bd (f12_isWord 0 SM) fun r_1 =>
  if r_1 = 0 then
    (bd (f12_isWord 3 SM) fun r_4 =>
    if r_4 = 0 then
      (bd (f12_isWord 6 SM) fun r_7 =>
      if r_7 = 0 then
        (bd (f12_isWord 7 SM) fun r_10 =>
        if r_10 = 0 then
          (bd (f12_readBill SM) fun r_13 =>
          f12_readLine_66 r_13)
        else
          (bd (f12_readShun SM) fun r_15 =>
          f12_readLine_66 r_15))
      else
        (bd (f12_readSees SM) fun r_17 =>
        f12_readLine_66 r_17))
    else
      (bd (f12_readSign SM) fun r_19 =>
      f12_readLine_66 r_19))
  else
    (bd (f12_readGuest SM) fun r_21 =>
    f12_readLine_66 r_21)
def f12_inn_153 : Nat → Int32 → Ob → Option (Int32 × Ob)
  | 0, _, _ => none
  | n + 1, x1, SM => if (SM.1 19) ≤ x1 then
    (lt (oI SM 18 (SM.1 19) : Ob) fun SM_2 =>
    bd (f12_begins SM_2) fun r_3 =>
    some (0, r_3))
  else
    (ck (inb x1 14) <|
    ck (inb x1 14) <|
    lt (oJ SM 14 (Int32.toNatClampNeg x1) (SM.2.2.2 15 (Int32.toNatClampNeg x1)) : Ob) fun SM_7 =>
    ck (inb x1 14) <|
    ck (inb x1 14) <|
    lt (oA SM_7 16 (Int32.toNatClampNeg x1) (SM_7.2.2.1 17 (Int32.toNatClampNeg x1)) : Ob) fun SM_10 =>
    lt (x1 + 1 : Int32) fun x1_11 =>
    f12_inn_153 n x1_11 SM_10)
def f12_inn_105 : Nat → Int32 → Ob → Option (Int32 × Ob)
  | 0, _, _ => none
  | n + 1, x1, SM => if (SM.1 13) ≤ x1 then
    (f12_inn_153 FU 0 SM)
  else
    (ck (inb (2200 + x1) 3300) <|
    ck (inb x1 3300) <|
    lt (oA SM 11 (Int32.toNatClampNeg x1) (SM.2.2.1 11 (Int32.toNatClampNeg (2200 + x1))) : Ob) fun SM_4 =>
    ck (inb (2200 + x1) 3300) <|
    ck (inb x1 3300) <|
    lt (oA SM_4 12 (Int32.toNatClampNeg x1) (SM_4.2.2.1 12 (Int32.toNatClampNeg (2200 + x1))) : Ob) fun SM_7 =>
    lt (x1 + 1 : Int32) fun x1_8 =>
    f12_inn_105 n x1_8 SM_7)
def f12_inn_76 : Nat → Int32 → Ob → Option (Int32 × Ob)
  | 0, _, _ => none
  | n + 1, x1, SM => if 60 ≤ x1 then
    (f12_inn_105 FU 0 SM)
  else
    (ck (inb (60 + x1) 120) <|
    ck (inb x1 120) <|
    lt (oA SM 10 (Int32.toNatClampNeg x1) (SM.2.2.1 10 (Int32.toNatClampNeg (60 + x1))) : Ob) fun SM_4 =>
    lt (x1 + 1 : Int32) fun x1_5 =>
    f12_inn_76 n x1_5 SM_4)
def f12_inn_62 (SM : Ob) : Option (Int32 × Ob) :=
  if (SM.1 8) ≤ 0 then
    (f12_inn_76 FU 0 SM)
  else
    (some (SM.1 8, SM))
def f12_inn_30 : Nat → Ob → Option (Int32 × Ob)
  | 0, _ => none
  | n + 1, SM => if (SM.1 8) = 0 then
    (ck (inb (SM.1 7) 1002) <|
    if (SM.2.2.1 4 (Int32.toNatClampNeg (SM.1 7))) = 0 then
      (f12_inn_62 SM)
    else
      (bd (f12_readLine SM) fun r_4 =>
      bd (f12_takeSign 59 r_4) fun r_6 =>
      f12_inn_30 n r_6))
  else
    (f12_inn_62 SM)
def f12_inn (SM : Ob) : Option (Int32 × Ob) :=
  lt (oI SM 0 0 : Ob) fun SM_1 =>
  bd (f12_cutAll SM_1) fun r_2 =>
  lt (oI r_2 13 0 : Ob) fun SM_4 =>
  lt (oI SM_4 19 0 : Ob) fun SM_5 =>
  lt (oI SM_5 20 1 : Ob) fun SM_7 =>
  bd (f12_standsAsAlways 60 SM_7) fun r_8 =>
  f12_inn_30 FU r_8
def f12_readWord_87 (SM : Ob) : Option (Ob) :=
  some SM
def f12_readWord (x1 : Int32) (x2 : Int32) (SM : Ob) : Option (Ob) :=
  if x1 = 0 then
    (bd (f12_takeTold 0 8 SM) fun r_12 =>
    ck (inb x2 160) <|
    lt (oA (r_12.2) 22 (Int32.toNatClampNeg x2) (r_12.1) : Ob) fun SM_15 =>
    ck (inb (x2 + 1) 160) <|
    lt (oA SM_15 22 (Int32.toNatClampNeg (x2 + 1)) (1100 + (SM_15.1 13)) : Ob) fun SM_17 =>
    bd (f12_either (f12_item DP) 0 SM_17) fun r_18 =>
    bd (f12_emit 0 0 r_18) fun r_20 =>
    f12_readWord_87 r_20)
  else
    (if 3 ≤ x1 then
      (if x1 = 3 then
        (bd (f12_takeOne 18 4 SM) fun r_4 =>
        ck (inb x2 160) <|
        lt (oA (r_4.2) 22 (Int32.toNatClampNeg x2) (r_4.1) : Ob) fun SM_7 =>
        f12_readWord_87 SM_7)
      else
        (f12_readWord_87 SM))
    else
      (bd (f12_takeTold 20 6 SM) fun r_8 =>
      ck (inb x2 160) <|
      lt (oA (r_8.2) 22 (Int32.toNatClampNeg x2) (r_8.1) : Ob) fun SM_11 =>
      f12_readWord_87 SM_11))
def f12_morning_123 (k34 : Int32 → Ob → Option (Int32 × Ob)) (x1 : Int32) (SM : Ob) : Option (Int32 × Ob) :=
  bd (f12_takeSign 59 SM) fun r_1 =>
  k34 x1 r_1
def f12_morning_185 : Nat → Int32 → Ob → Option (Int32 × Ob)
  | 0, _, _ => none
  | n + 1, x2, SM => if (SM.1 13) ≤ x2 then
    (some (0, SM))
  else
    (ck (inb (2200 + x2) 3300) <|
    ck (inb (1100 + x2) 3300) <|
    lt (oA SM 11 (Int32.toNatClampNeg (1100 + x2)) (SM.2.2.1 11 (Int32.toNatClampNeg (2200 + x2))) : Ob) fun SM_4 =>
    ck (inb (2200 + x2) 3300) <|
    ck (inb (1100 + x2) 3300) <|
    lt (oA SM_4 12 (Int32.toNatClampNeg (1100 + x2)) (SM_4.2.2.1 12 (Int32.toNatClampNeg (2200 + x2))) : Ob) fun SM_7 =>
    lt (x2 + 1 : Int32) fun x2_8 =>
    f12_morning_185 n x2_8 SM_7)
def f12_morning_153 : Nat → Int32 → Int32 → Ob → Option (Int32 × Ob)
  | 0, _, _, _ => none
  | n + 1, x1, x2, SM => if (3 * x1) ≤ x2 then
    (f12_morning_185 FU 0 SM)
  else
    (ck (inb (80 + x2) 160) <|
    ck (inb (1 + x2) 160) <|
    lt (oA SM 22 (Int32.toNatClampNeg (1 + x2)) (SM.2.2.1 22 (Int32.toNatClampNeg (80 + x2))) : Ob) fun SM_4 =>
    lt (x2 + 1 : Int32) fun x2_5 =>
    f12_morning_153 n x1 x2_5 SM_4)
def f12_morning_132 (x1 : Int32) (SM : Ob) : Option (Int32 × Ob) :=
  if (SM.1 8) ≤ 0 then
    (ck (inb 0 160) <|
    lt (oA SM 22 (Int32.toNatClampNeg 0) x1 : Ob) fun SM_3 =>
    f12_morning_153 FU x1 0 SM_3)
  else
    (some (SM.1 8, SM))
def f12_morning_34 : Nat → Int32 → Ob → Option (Int32 × Ob)
  | 0, _, _ => none
  | n + 1, x1, SM => if (SM.1 8) = 0 then
    (ck (inb (SM.1 7) 1002) <|
    if (SM.2.2.1 4 (Int32.toNatClampNeg (SM.1 7))) = 0 then
      (f12_morning_132 x1 SM)
    else
      (bd (f12_wordHere 9 5 SM) fun r_4 =>
      if 0 ≤ r_4 then
        (if x1 = 24 then
          (bd (f12_wrong 5 SM) fun r_14 =>
          f12_morning_123 (f12_morning_34 n) x1 r_14)
        else
          (lt (oI SM 7 ((SM.1 7) + 1) : Ob) fun SM_8 =>
          ck (inb (80 + (3 * x1)) 160) <|
          lt (oA SM_8 22 (Int32.toNatClampNeg (80 + (3 * x1))) r_4 : Ob) fun SM_10 =>
          bd (f12_readWord r_4 (81 + (3 * x1)) SM_10) fun r_11 =>
          lt (x1 + 1 : Int32) fun x1_13 =>
          f12_morning_123 (f12_morning_34 n) x1_13 r_11))
      else
        (bd (f12_wrong 1 SM) fun r_16 =>
        f12_morning_123 (f12_morning_34 n) x1 r_16)))
  else
    (f12_morning_132 x1 SM)
def f12_morning (SM : Ob) : Option (Int32 × Ob) :=
  lt (oI SM 0 0 : Ob) fun SM_1 =>
  bd (f12_cutAll SM_1) fun r_2 =>
  lt (oI r_2 13 0 : Ob) fun SM_4 =>
  lt (oI SM_4 20 0 : Ob) fun SM_6 =>
  ck (inb 1 120) <|
  lt (oI SM_6 21 (20 + (SM_6.2.2.1 10 (Int32.toNatClampNeg 1))) : Ob) fun SM_8 =>
  f12_morning_34 FU 0 SM_8
/-! 17.m07.lean.txt -/
def f12_both_62 (z0 : Int32) : Option (Int32) :=
  some z0
def f12_both_73 (z0 : Int32) : Option (Int32) :=
  some z0
def f12_both_87 (z0 : Int32) : Option (Int32) :=
  some z0
def f12_both_86 : Option (Int32) :=
  f12_both_87 0
def f12_both_101 (z0 : Int32) : Option (Int32) :=
  some z0
def f12_both_96 : Option (Int32) :=
  f12_both_101 1
def f12_both (x0 : Int32) (x1 : Int32) (x2 : Int32) : Option (Int32) :=
  if x0 = 4 then
    (some (x1 + x2))
  else if x0 = 5 then
      (some (x1 - x2))
    else if x0 = 6 then
        (some (x1 * x2))
      else if x0 = 7 then
          (if x2 ≤ x1 then
            (f12_both_62 0)
          else
            (f12_both_62 1))
        else if x0 = 8 then
            (if x1 = x2 then
              (f12_both_73 1)
            else
              (f12_both_73 0))
          else if x0 = 9 then
              (if x1 = 0 then
                (f12_both_86 )
              else
                (if x2 = 0 then
                  (f12_both_86 )
                else
                  (f12_both_87 1)))
            else 
    (if x1 = 0 then
                (if x2 = 0 then
                  (f12_both_101 0)
                else
                  (f12_both_96 ))
              else
                (f12_both_96 ))
def f12_worthAt_134 (k4 : Int32 → Int32 → Ob → Option (Int32 × Ob)) (x2 : Int32) (x3 : Int32) (SM : Ob) : Option (Int32 × Ob) :=
  lt (x3 + 1 : Int32) fun x3_1 =>
  k4 x2 x3_1 SM
def f12_worthAt_64 (k4 : Int32 → Int32 → Ob → Option (Int32 × Ob)) (x2 : Int32) (x3 : Int32) (z1 : Int32) (z2 : Int32) (SM : Ob) : Option (Int32 × Ob) :=
  ck (inb z1 1100) <|
  lt (oA SM 24 (Int32.toNatClampNeg z1) z2 : Ob) fun SM_2 =>
  lt (x2 + 1 : Int32) fun x2_3 =>
  f12_worthAt_134 k4 x2_3 x3 SM_2
def f12_worthAt_33 (k4 : Int32 → Int32 → Ob → Option (Int32 × Ob)) (x2 : Int32) (x3 : Int32) (x4 : Int32) (SM : Ob) : Option (Int32 × Ob) :=
  if x4 = 1 then
    (ck (inb x3 3300) <|
    f12_worthAt_64 k4 x2 x3 x2 (SM.2.2.1 12 (Int32.toNatClampNeg x3)) SM)
  else
    (ck (inb x3 3300) <|
    ck (inb (SM.2.2.1 12 (Int32.toNatClampNeg x3)) 3) <|
    f12_worthAt_64 k4 x2 x3 x2 (SM.2.2.1 23 (Int32.toNatClampNeg (SM.2.2.1 12 (Int32.toNatClampNeg x3)))) SM)
def f12_worthAt_100 (k4 : Int32 → Int32 → Ob → Option (Int32 × Ob)) (x2 : Int32) (x3 : Int32) (z1 : Int32) (z2 : Int32) (SM : Ob) : Option (Int32 × Ob) :=
  ck (inb z1 1100) <|
  lt (oA SM 24 (Int32.toNatClampNeg z1) z2 : Ob) fun SM_2 =>
  f12_worthAt_134 k4 x2 x3 SM_2
def f12_worthAt_4 : Nat → Int32 → Int32 → Ob → Option (Int32 × Ob)
  | 0, _, _, _ => none
  | n + 1, x2, x3, SM => ck (inb x3 3300) <|
  if (SM.2.2.1 11 (Int32.toNatClampNeg x3)) = 0 then
    (ck (inb 0 1100) <|
    some (SM.2.2.1 24 (Int32.toNatClampNeg 0), SM))
  else
    (ck (inb x3 3300) <|
    lt (SM.2.2.1 11 (Int32.toNatClampNeg x3) : Int32) fun x4_5 =>
    if x4_5 = 1 then
      (f12_worthAt_33 (f12_worthAt_4 n) x2 x3 x4_5 SM)
    else
      (if x4_5 = 2 then
        (f12_worthAt_33 (f12_worthAt_4 n) x2 x3 x4_5 SM)
      else
        (if x4_5 = 3 then
          (ck (inb (x2 - 1) 1100) <|
          if (SM.2.2.1 24 (Int32.toNatClampNeg (x2 - 1))) = 0 then
            (f12_worthAt_100 (f12_worthAt_4 n) x2 x3 (x2 - 1) 1 SM)
          else
            (f12_worthAt_100 (f12_worthAt_4 n) x2 x3 (x2 - 1) 0 SM))
        else
          (lt (x2 + (-1) : Int32) fun x2_9 =>
          ck (inb (x2_9 - 1) 1100) <|
          ck (inb x2_9 1100) <|
          bd (f12_both x4_5 (SM.2.2.1 24 (Int32.toNatClampNeg (x2_9 - 1))) (SM.2.2.1 24 (Int32.toNatClampNeg x2_9))) fun r_12 =>
          ck (inb (x2_9 - 1) 1100) <|
          lt (oA SM 24 (Int32.toNatClampNeg (x2_9 - 1)) r_12 : Ob) fun SM_15 =>
          f12_worthAt_134 (f12_worthAt_4 n) x2_9 x3 SM_15))))
def f12_worthAt (x1 : Int32) (SM : Ob) : Option (Int32 × Ob) :=
  f12_worthAt_4 FU 0 x1 SM
def f12_copies_3 : Nat → Int32 → Int32 → Int32 → Int32 → Ob → Option (Ob)
  | 0, _, _, _, _, _ => none
  | n + 1, x1, x2, x3, x4, SM => if x3 ≤ x4 then
    (some SM)
  else
    (ck (inb (x1 + x4) 660) <|
    ck (inb (x2 + x4) 660) <|
    lt (oA SM 25 (Int32.toNatClampNeg (x2 + x4)) (SM.2.2.1 25 (Int32.toNatClampNeg (x1 + x4))) : Ob) fun SM_4 =>
    lt (x4 + 1 : Int32) fun x4_5 =>
    f12_copies_3 n x1 x2 x3 x4_5 SM_4)
def f12_copies (x1 : Int32) (x2 : Int32) (x3 : Int32) (SM : Ob) : Option (Ob) :=
  f12_copies_3 FU x1 x2 x3 0 SM
def f12_keeps_53 (SM : Ob) : Option (Ob) :=
  bd (f12_copies 0 (30 * (5 + (SM.1 26))) 12 SM) fun r_1 =>
  lt (oI r_1 26 ((r_1.1 26) + 1) : Ob) fun SM_3 =>
  some SM_3
def f12_keeps_11 : Nat → Int32 → Ob → Option (Ob)
  | 0, _, _ => none
  | n + 1, x1, SM => if 16 ≤ x1 then
    (lt (oI SM 26 ((SM.1 26) - 1) : Ob) fun SM_2 =>
    f12_keeps_53 SM_2)
  else
    (bd (f12_copies (30 * (5 + x1)) (30 * ((5 + x1) - 1)) 12 SM) fun r_3 =>
    lt (x1 + 1 : Int32) fun x1_5 =>
    f12_keeps_11 n x1_5 r_3)
def f12_keeps (SM : Ob) : Option (Ob) :=
  if (SM.1 26) = 16 then
    (f12_keeps_11 FU 1 SM)
  else
    (f12_keeps_53 SM)
def f12_isGuest_17 (z0 : Int32) (SM : Ob) : Option (Int32) :=
  ck (isz z0) (some z0)
def f12_isGuest_16 (SM : Ob) : Option (Int32) :=
  f12_isGuest_17 0 SM
def f12_isGuest (x1 : Int32) (SM : Ob) : Option (Int32) :=
  if x1 < 0 then
    (f12_isGuest_16 SM)
  else
    (bd (f12_guests SM) fun r_2 =>
    if r_2 ≤ x1 then
      (f12_isGuest_16 SM)
    else
      (f12_isGuest_17 1 SM))
def f12_bits_4 : Nat → Int32 → Int32 → Int32 → Option (Int32)
  | 0, _, _, _ => none
  | n + 1, x0, x1, x2 => if 32 ≤ x2 then
    (some x1)
  else
    (lt (x1 + ((x0 >>> (x2 &&& 31)) &&& 1) : Int32) fun x1_2 =>
    lt (x2 + 1 : Int32) fun x2_3 =>
    f12_bits_4 n x0 x1_2 x2_3)
def f12_bits (x0 : Int32) : Option (Int32) :=
  f12_bits_4 FU x0 0 0
def f12_isIn_14 (z0 : Int32) : Option (Int32) :=
  ck (isz z0) (some z0)
def f12_isIn (x0 : Int32) (x1 : Int32) : Option (Int32) :=
  if ((x0 >>> (x1 &&& 31)) &&& 1) = 1 then
    (f12_isIn_14 1)
  else
    (f12_isIn_14 0)
def f12_saidIn_76 (z0 : Int32) (SM : Ob) : Option (Int32) :=
  some z0
def f12_saidIn (x1 : Int32) (x2 : Int32) (SM : Ob) : Option (Int32) :=
  bd (f12_guestOf x1 0 SM) fun r_1 =>
  bd (f12_worldsOf x1) fun r_3 =>
  bd (f12_everyWorld SM) fun r_5 =>
  lt ((x2 ^^^ (-1)) &&& r_5 : Int32) fun x5_7 =>
  if r_1 = 3 then
    (bd (f12_everyWorld SM) fun r_11 =>
    f12_saidIn_76 r_11 SM)
  else
    (if r_1 = 1 then
      (f12_saidIn_76 x2 SM)
    else
      (if r_1 = 2 then
        (f12_saidIn_76 ((x5_7 &&& (r_3 ^^^ (-1))) ||| (x2 &&& r_3)) SM)
      else
        (f12_saidIn_76 ((x2 &&& (r_3 ^^^ (-1))) ||| (x5_7 &&& r_3)) SM)))
def f12_whoIn_29 (k4 : Int32 → Int32 → Int32 → Ob → Option (Int32)) (x1 : Int32) (x3 : Int32) (z0 : Int32) (z1 : Int32) (SM : Ob) : Option (Int32) :=
  lt (z0 ||| z1 : Int32) fun x2_1 =>
  lt (x3 + 1 : Int32) fun x3_2 =>
  k4 x1 x2_1 x3_2 SM
def f12_whoIn_4 : Nat → Int32 → Int32 → Int32 → Ob → Option (Int32)
  | 0, _, _, _, _ => none
  | n + 1, x1, x2, x3, SM => bd (f12_guests SM) fun r_1 =>
  if r_1 ≤ x3 then
    (some x2)
  else
    (bd (f12_worldsOf x3) fun r_4 =>
    if (x1 &&& r_4) = 0 then
      (f12_whoIn_29 (f12_whoIn_4 n) x1 x3 x2 0 SM)
    else
      (f12_whoIn_29 (f12_whoIn_4 n) x1 x3 x2 (1 <<< (x3 &&& 31)) SM))
def f12_whoIn (x1 : Int32) (SM : Ob) : Option (Int32) :=
  f12_whoIn_4 FU x1 0 0 SM
def f12_alone_22 (k4 : Int32 → Int32 → Int32 → Option (Int32)) (x0 : Int32) (x2 : Int32) (z0 : Int32) : Option (Int32) :=
  lt (x2 + 1 : Int32) fun x2_1 =>
  k4 x0 z0 x2_1
def f12_alone_4 : Nat → Int32 → Int32 → Int32 → Option (Int32)
  | 0, _, _, _ => none
  | n + 1, x0, x1, x2 => if 8 ≤ x2 then
    (some x1)
  else
    (if x0 = (1 <<< (x2 &&& 31)) then
      (f12_alone_22 (f12_alone_4 n) x0 x2 x2)
    else
      (f12_alone_22 (f12_alone_4 n) x0 x2 x1))
def f12_alone (x0 : Int32) : Option (Int32) :=
  f12_alone_4 FU x0 (-1) 0
def f12_guest_32 (z0 : Int32) (SM : Ob) : Option (Int32 × Ob) :=
  some (z0, SM)
def f12_guest_31 (SM : Ob) : Option (Int32 × Ob) :=
  f12_guest_32 (-1) SM
def f12_guest (x1 : Int32) (x2 : Int32) (SM : Ob) : Option (Int32 × Ob) :=
  lt (oI SM 0 0 : Ob) fun SM_1 =>
  bd (f12_isGuest x1 SM_1) fun r_2 =>
  if r_2 = 0 then
    (f12_guest_31 SM_1)
  else
    (bd (f12_within x2 0 4) fun r_5 =>
    if r_5 = 0 then
      (f12_guest_31 SM_1)
    else
      (bd (f12_guestOf x1 x2 SM_1) fun r_8 =>
      f12_guest_32 r_8 SM_1))
def f12_shows_29 (z0 : Int32) (SM : Ob) : Option (Int32 × Ob) :=
  some (z0, SM)
def f12_shows (x1 : Int32) (SM : Ob) : Option (Int32 × Ob) :=
  lt (oI SM 0 0 : Ob) fun SM_1 =>
  bd (f12_worlds SM_1) fun r_2 =>
  bd (f12_within x1 0 (r_2 - 1)) fun r_4 =>
  if r_4 = 0 then
    (f12_shows_29 (-1) SM_1)
  else
    (ck (inb x1 32) <|
    f12_shows_29 (SM_1.2.2.1 29 (Int32.toNatClampNeg x1)) SM_1)
def f12_left (SM : Ob) : Option (Int32 × Ob) :=
  lt (oI SM 0 0 : Ob) fun SM_1 =>
  ck (inb 0 660) <|
  some (SM_1.2.2.1 25 (Int32.toNatClampNeg 0), SM_1)
def f12_leaves (x1 : Int32) (SM : Ob) : Option (Int32 × Ob) :=
  ck (inb 0 660) <|
  if ((SM.2.2.1 25 (Int32.toNatClampNeg 0)) &&& x1) = 0 then
    (some ((-1), SM))
  else
    (bd (f12_keeps SM) fun r_3 =>
    ck (inb 0 660) <|
    ck (inb 0 660) <|
    lt (oA r_3 25 (Int32.toNatClampNeg 0) ((r_3.2.2.1 25 (Int32.toNatClampNeg 0)) &&& x1) : Ob) fun SM_7 =>
    ck (inb 0 660) <|
    bd (f12_bits (SM_7.2.2.1 25 (Int32.toNatClampNeg 0))) fun r_9 =>
    some (r_9, SM_7))
def f12_answerIn_24 (z1 : Int32) (z2 : Int32) (SM : Ob) : Option (Int32) :=
  bd (f12_saidIn z1 z2 SM) fun r_1 =>
  some r_1
def f12_answerIn (x1 : Int32) (x2 : Int32) (x3 : Int32) (SM : Ob) : Option (Int32) :=
  if x3 = 0 then
    (bd (f12_worldsOf x2) fun r_2 =>
    bd (f12_everyWorld SM) fun r_4 =>
    f12_answerIn_24 x1 ((r_2 ^^^ (-1)) &&& r_4) SM)
  else
    (bd (f12_worldsOf x2) fun r_6 =>
    f12_answerIn_24 x1 r_6 SM)
/-! 18.m08.lean.txt -/
def f12_answer_36 (z0 : Int32) (SM : Ob) : Option (Int32 × Ob) :=
  some (z0, SM)
def f12_answer_35 (SM : Ob) : Option (Int32 × Ob) :=
  f12_answer_36 (-1) SM
def f12_answer (x1 : Int32) (x2 : Int32) (x3 : Int32) (SM : Ob) : Option (Int32 × Ob) :=
  lt (oI SM 0 0 : Ob) fun SM_1 =>
  bd (f12_isGuest x1 SM_1) fun r_2 =>
  if r_2 = 0 then
    (f12_answer_35 SM_1)
  else
    (bd (f12_isGuest x2 SM_1) fun r_5 =>
    if r_5 = 0 then
      (f12_answer_35 SM_1)
    else
      (bd (f12_answerIn x1 x2 x3 SM_1) fun r_8 =>
      bd (f12_leaves r_8 SM_1) fun r_10 =>
      f12_answer_36 (r_10.1) (r_10.2)))
def f12_sign_53 (z0 : Int32) (SM : Ob) : Option (Int32 × Ob) :=
  some (z0, SM)
def f12_sign_46 (z1 : Int32) (SM : Ob) : Option (Int32 × Ob) :=
  bd (f12_leaves z1 SM) fun r_1 =>
  f12_sign_53 (r_1.1) (r_1.2)
def f12_sign (x1 : Int32) (x2 : Int32) (SM : Ob) : Option (Int32 × Ob) :=
  lt (oI SM 0 0 : Ob) fun SM_1 =>
  bd (f12_signs SM_1) fun r_2 =>
  bd (f12_within x1 0 (r_2 - 1)) fun r_4 =>
  if r_4 = 0 then
    (f12_sign_53 (-1) SM_1)
  else
    (if x2 = 0 then
      (ck (inb x1 6) <|
      bd (f12_everyWorld SM_1) fun r_9 =>
      f12_sign_46 (((SM_1.2.2.1 28 (Int32.toNatClampNeg x1)) ^^^ (-1)) &&& r_9) SM_1)
    else
      (ck (inb x1 6) <|
      f12_sign_46 (SM_1.2.2.1 28 (Int32.toNatClampNeg x1)) SM_1))
def f12_weather_27 (z0 : Int32) (SM : Ob) : Option (Int32 × Ob) :=
  some (z0, SM)
def f12_weather (x1 : Int32) (SM : Ob) : Option (Int32 × Ob) :=
  lt (oI SM 0 0 : Ob) fun SM_1 =>
  bd (f12_within x1 0 3) fun r_2 =>
  if r_2 = 0 then
    (f12_weather_27 (-1) SM_1)
  else
    (bd (f12_soOf x1 SM_1) fun r_5 =>
    bd (f12_leaves r_5 SM_1) fun r_7 =>
    f12_weather_27 (r_7.1) (r_7.2))
def f12_endsNight_54 (x1 : Int32) (SM : Ob) : Option (Ob) :=
  bd (f12_everyWorld SM) fun r_1 =>
  ck (inb (x1 + 0) 660) <|
  lt (oA SM 25 (Int32.toNatClampNeg (x1 + 0)) r_1 : Ob) fun SM_4 =>
  some SM_4
def f12_endsNight (x1 : Int32) (SM : Ob) : Option (Ob) :=
  ck (inb (x1 + 1) 660) <|
  if 10 ≤ (SM.2.2.1 25 (Int32.toNatClampNeg (x1 + 1))) then
    (f12_endsNight_54 x1 SM)
  else
    (ck (inb (x1 + 1) 660) <|
    ck (inb (x1 + 0) 660) <|
    bd (f12_whoIn (SM.2.2.1 25 (Int32.toNatClampNeg (x1 + 0))) SM) fun r_5 =>
    ck (inb ((x1 + 2) + (SM.2.2.1 25 (Int32.toNatClampNeg (x1 + 1)))) 660) <|
    lt (oA SM 25 (Int32.toNatClampNeg ((x1 + 2) + (SM.2.2.1 25 (Int32.toNatClampNeg (x1 + 1))))) r_5 : Ob) fun SM_8 =>
    ck (inb (x1 + 1) 660) <|
    ck (inb (x1 + 1) 660) <|
    lt (oA SM_8 25 (Int32.toNatClampNeg (x1 + 1)) ((SM_8.2.2.1 25 (Int32.toNatClampNeg (x1 + 1))) + 1) : Ob) fun SM_11 =>
    f12_endsNight_54 x1 SM_11)
def f12_night_23 (SM : Ob) : Option (Int32 × Ob) :=
  some ((-1), SM)
def f12_night (SM : Ob) : Option (Int32 × Ob) :=
  lt (oI SM 0 0 : Ob) fun SM_1 =>
  bd (f12_guests SM_1) fun r_2 =>
  if r_2 = 0 then
    (f12_night_23 SM_1)
  else
    (ck (inb 1 660) <|
    if (SM_1.2.2.1 25 (Int32.toNatClampNeg 1)) = 10 then
      (f12_night_23 SM_1)
    else
      (bd (f12_keeps SM_1) fun r_7 =>
      bd (f12_endsNight 0 r_7) fun r_9 =>
      ck (inb 1 660) <|
      ck (inb ((2 + (r_9.2.2.1 25 (Int32.toNatClampNeg 1))) - 1) 660) <|
      some (r_9.2.2.1 25 (Int32.toNatClampNeg ((2 + (r_9.2.2.1 25 (Int32.toNatClampNeg 1))) - 1)), r_9)))
def f12_undo (SM : Ob) : Option (Int32 × Ob) :=
  lt (oI SM 0 0 : Ob) fun SM_1 =>
  if (SM_1.1 26) = 0 then
    (some (0, SM_1))
  else
    (lt (oI SM_1 26 ((SM_1.1 26) - 1) : Ob) fun SM_3 =>
    bd (f12_copies (30 * (5 + (SM_3.1 26))) 0 12 SM_3) fun r_4 =>
    some (1, r_4))
def f12_lineIn_109 (z0 : Int32) (SM : Ob) : Option (Int32 × Ob) :=
  some (z0, SM)
def f12_lineIn (x1 : Int32) (SM : Ob) : Option (Int32 × Ob) :=
  ck (inb x1 160) <|
  lt (SM.2.2.1 22 (Int32.toNatClampNeg x1) : Int32) fun x2_2 =>
  if x2_2 = 0 then
    (ck (inb (x1 + 1) 160) <|
    ck (inb (x1 + 2) 160) <|
    bd (f12_soIn (SM.2.2.1 22 (Int32.toNatClampNeg (x1 + 2))) SM) fun r_20 =>
    bd (f12_saidIn (SM.2.2.1 22 (Int32.toNatClampNeg (x1 + 1))) (r_20.1) (r_20.2)) fun r_22 =>
    some (r_22, r_20.2))
  else
    (if x2_2 = 1 then
      (ck (inb (x1 + 1) 160) <|
      ck (inb (SM.2.2.1 22 (Int32.toNatClampNeg (x1 + 1))) 6) <|
      f12_lineIn_109 (SM.2.2.1 28 (Int32.toNatClampNeg (SM.2.2.1 22 (Int32.toNatClampNeg (x1 + 1))))) SM)
    else
      (if x2_2 = 2 then
        (ck (inb (x1 + 1) 160) <|
        ck (inb (SM.2.2.1 22 (Int32.toNatClampNeg (x1 + 1))) 6) <|
        bd (f12_everyWorld SM) fun r_14 =>
        f12_lineIn_109 (((SM.2.2.1 28 (Int32.toNatClampNeg (SM.2.2.1 22 (Int32.toNatClampNeg (x1 + 1))))) ^^^ (-1)) &&& r_14) SM)
      else
        (if x2_2 = 3 then
          (ck (inb (x1 + 1) 160) <|
          bd (f12_soOf (SM.2.2.1 22 (Int32.toNatClampNeg (x1 + 1))) SM) fun r_10 =>
          f12_lineIn_109 r_10 SM)
        else
          (bd (f12_everyWorld SM) fun r_7 =>
          f12_lineIn_109 r_7 SM))))
def f12_runs_120 (k11 : Int32 → Int32 → Int32 → Ob → Option (Int32 × Ob)) (x1 : Int32) (x2 : Int32) (x3 : Int32) (SM : Ob) : Option (Int32 × Ob) :=
  lt (x3 + 1 : Int32) fun x3_1 =>
  k11 x1 x2 x3_1 SM
def f12_runs_119 (k11 : Int32 → Int32 → Int32 → Ob → Option (Int32 × Ob)) (x1 : Int32) (x3 : Int32) (z0 : Int32) (SM : Ob) : Option (Int32 × Ob) :=
  f12_runs_120 k11 x1 z0 x3 SM
def f12_runs_105 (k11 : Int32 → Int32 → Int32 → Ob → Option (Int32 × Ob)) (x1 : Int32) (x2 : Int32) (x3 : Int32) (SM : Ob) : Option (Int32 × Ob) :=
  if x3 = x1 then
    (f12_runs_120 k11 x1 x2 x3 SM)
  else
    (if 0 ≤ x2 then
      (f12_runs_119 k11 x1 x3 x2 SM)
    else
      (f12_runs_119 k11 x1 x3 x3 SM))
def f12_runs_82 (k11 : Int32 → Int32 → Int32 → Ob → Option (Int32 × Ob)) (x1 : Int32) (x2 : Int32) (x3 : Int32) (x4 : Int32) (SM : Ob) : Option (Int32 × Ob) :=
  if x3 = x1 then
    (f12_runs_105 k11 x1 x2 x3 SM)
  else
    (if x4 = 0 then
      (f12_runs_105 k11 x1 x2 x3 SM)
    else
      (ck (inb 630 660) <|
      lt (oA SM 25 (Int32.toNatClampNeg 630) x4 : Ob) fun SM_4 =>
      f12_runs_120 k11 x1 x2 x3 SM_4))
def f12_runs_60 (k11 : Int32 → Int32 → Int32 → Ob → Option (Int32 × Ob)) (x1 : Int32) (x2 : Int32) (x3 : Int32) (x4 : Int32) (z0 : Int32) (SM : Ob) : Option (Int32 × Ob) :=
  if x3 = x1 then
    (f12_runs_82 k11 x1 x2 x3 x4 SM)
  else
    (if z0 = 0 then
      (f12_runs_82 k11 x1 x2 x3 x4 SM)
    else
      (bd (f12_endsNight 630 SM) fun r_3 =>
      f12_runs_120 k11 x1 x2 x3 r_3))
def f12_runs_11 : Nat → Int32 → Int32 → Int32 → Ob → Option (Int32 × Ob)
  | 0, _, _, _, _ => none
  | n + 1, x1, x2, x3, SM => ck (inb 0 160) <|
  if (SM.2.2.1 22 (Int32.toNatClampNeg 0)) ≤ x3 then
    (some (x2, SM))
  else
    (ck (inb 630 660) <|
    bd (f12_lineIn (1 + (3 * x3)) SM) fun r_4 =>
    lt ((SM.2.2.1 25 (Int32.toNatClampNeg 630)) &&& (r_4.1) : Int32) fun x4_6 =>
    ck (inb (1 + (3 * x3)) 160) <|
    if ((r_4.2).2.2.1 22 (Int32.toNatClampNeg (1 + (3 * x3)))) = 4 then
      (f12_runs_60 (f12_runs_11 n) x1 x2 x3 x4_6 1 (r_4.2))
    else
      (f12_runs_60 (f12_runs_11 n) x1 x2 x3 x4_6 0 (r_4.2)))
def f12_runs (x1 : Int32) (SM : Ob) : Option (Int32 × Ob) :=
  bd (f12_starts 630 SM) fun r_1 =>
  f12_runs_11 FU x1 (-1) 0 r_1
def f12_judged_65 (z0 : Int32) (SM : Ob) : Option (Int32 × Ob) :=
  some (z0, SM)
def f12_judged (x1 : Int32) (SM : Ob) : Option (Int32 × Ob) :=
  lt (oI SM 0 0 : Ob) fun SM_1 =>
  bd (f12_within x1 0 2) fun r_2 =>
  if r_2 = 0 then
    (some ((-2), SM_1))
  else
    (bd (f12_runs (-1) SM_1) fun r_5 =>
    lt (r_5.1 : Int32) fun x2_7 =>
    if x1 = 0 then
      (f12_judged_65 x2_7 (r_5.2))
    else
      (if x1 = 1 then
        (ck (inb 630 660) <|
        bd (f12_bits ((r_5.2).2.2.1 25 (Int32.toNatClampNeg 630))) fun r_16 =>
        f12_judged_65 r_16 (r_5.2))
      else
        (ck (inb 630 660) <|
        bd (f12_whoIn ((r_5.2).2.2.1 25 (Int32.toNatClampNeg 630)) (r_5.2)) fun r_11 =>
        bd (f12_alone r_11) fun r_13 =>
        f12_judged_65 r_13 (r_5.2))))
def f12_spare_60 (k24 : Int32 → Int32 → Int32 → Ob → Option (Int32 × Ob)) (x1 : Int32) (x3 : Int32) (z0 : Int32) (z1 : Int32) (SM : Ob) : Option (Int32 × Ob) :=
  lt (z0 ||| z1 : Int32) fun x2_1 =>
  lt (x3 + 1 : Int32) fun x3_2 =>
  k24 x1 x2_1 x3_2 SM
def f12_spare_24 : Nat → Int32 → Int32 → Int32 → Ob → Option (Int32 × Ob)
  | 0, _, _, _, _ => none
  | n + 1, x1, x2, x3, SM => ck (inb 0 160) <|
  if (SM.2.2.1 22 (Int32.toNatClampNeg 0)) ≤ x3 then
    (some (x2, SM))
  else
    (bd (f12_runs x3 SM) fun r_3 =>
    ck (inb 630 660) <|
    if ((r_3.2).2.2.1 25 (Int32.toNatClampNeg 630)) = x1 then
      (f12_spare_60 (f12_spare_24 n) x1 x3 x2 (1 <<< (x3 &&& 31)) (r_3.2))
    else
      (f12_spare_60 (f12_spare_24 n) x1 x3 x2 0 (r_3.2)))
def f12_spare (SM : Ob) : Option (Int32 × Ob) :=
  lt (oI SM 0 0 : Ob) fun SM_1 =>
  bd (f12_runs (-1) SM_1) fun r_2 =>
  ck (inb 630 660) <|
  lt ((r_2.2).2.2.1 25 (Int32.toNatClampNeg 630) : Int32) fun x1_5 =>
  f12_spare_24 FU x1_5 0 0 (r_2.2)
def f12_who (SM : Ob) : Option (Int32 × Ob) :=
  lt (oI SM 0 0 : Ob) fun SM_1 =>
  ck (inb 0 660) <|
  bd (f12_whoIn (SM_1.2.2.1 25 (Int32.toNatClampNeg 0)) SM_1) fun r_3 =>
  some (r_3, SM_1)
/-! 19.m09.lean.txt -/
def f12_ask_150 (k23 : Int32 → Int32 → Int32 → Ob → Option (Int32 × Ob)) (x1 : Int32) (x2 : Int32) (x3 : Int32) (SM : Ob) : Option (Int32 × Ob) :=
  lt (x3 + 1 : Int32) fun x3_1 =>
  k23 x1 x2 x3_1 SM
def f12_ask_149 (k23 : Int32 → Int32 → Int32 → Ob → Option (Int32 × Ob)) (x1 : Int32) (x3 : Int32) (z0 : Int32) (SM : Ob) : Option (Int32 × Ob) :=
  f12_ask_150 k23 x1 z0 x3 SM
def f12_ask_136 (k23 : Int32 → Int32 → Int32 → Ob → Option (Int32 × Ob)) (x2 : Int32) (x3 : Int32) (x6 : Int32) (z0 : Int32) (SM : Ob) : Option (Int32 × Ob) :=
  if x2 ≤ x6 then
    (f12_ask_149 k23 z0 x3 x2 SM)
  else
    (f12_ask_149 k23 z0 x3 x6 SM)
def f12_ask_123 (k23 : Int32 → Int32 → Int32 → Ob → Option (Int32 × Ob)) (x1 : Int32) (x2 : Int32) (x3 : Int32) (z0 : Int32) (SM : Ob) : Option (Int32 × Ob) :=
  if x2 ≤ z0 then
    (f12_ask_136 k23 x2 x3 z0 x1 SM)
  else
    (f12_ask_136 k23 x2 x3 z0 x3 SM)
def f12_ask_23 : Nat → Int32 → Int32 → Int32 → Ob → Option (Int32 × Ob)
  | 0, _, _, _, _ => none
  | n + 1, x1, x2, x3, SM => if 64 ≤ x3 then
    (some (x1, SM))
  else
    (ck (nz 8) <|
    bd (f12_isGuest (x3 / 8) SM) fun r_3 =>
    if r_3 = 0 then
      (f12_ask_150 (f12_ask_23 n) x1 x2 x3 SM)
    else
      (ck (nz 8) <|
      bd (f12_isGuest (x3 - x3 / 8 * 8) SM) fun r_7 =>
      if r_7 = 0 then
        (f12_ask_150 (f12_ask_23 n) x1 x2 x3 SM)
      else
        (ck (inb 0 660) <|
        ck (nz 8) <|
        ck (nz 8) <|
        bd (f12_answerIn (x3 / 8) (x3 - x3 / 8 * 8) 1 SM) fun r_13 =>
        bd (f12_whoIn ((SM.2.2.1 25 (Int32.toNatClampNeg 0)) &&& r_13) SM) fun r_15 =>
        bd (f12_bits r_15) fun r_17 =>
        ck (inb 0 660) <|
        ck (nz 8) <|
        ck (nz 8) <|
        bd (f12_answerIn (x3 / 8) (x3 - x3 / 8 * 8) 0 SM) fun r_22 =>
        bd (f12_whoIn ((SM.2.2.1 25 (Int32.toNatClampNeg 0)) &&& r_22) SM) fun r_24 =>
        bd (f12_bits r_24) fun r_26 =>
        if r_17 ≤ r_26 then
          (f12_ask_123 (f12_ask_23 n) x1 x2 x3 r_26 SM)
        else
          (f12_ask_123 (f12_ask_23 n) x1 x2 x3 r_17 SM))))
def f12_ask (SM : Ob) : Option (Int32 × Ob) :=
  lt (oI SM 0 0 : Ob) fun SM_1 =>
  ck (inb 0 660) <|
  bd (f12_whoIn (SM_1.2.2.1 25 (Int32.toNatClampNeg 0)) SM_1) fun r_3 =>
  bd (f12_bits r_3) fun r_5 =>
  f12_ask_23 FU (-1) r_5 0 SM_1
def f12_fewest_187 (k7 : Int32 → Ob → Option (Int32 × Ob)) (k39 : Int32 → Int32 → Ob → Option (Int32 × Ob)) (x1 : Int32) (x2 : Int32) (SM : Ob) : Option (Int32 × Ob) :=
  lt (x2 + 1 : Int32) fun x2_1 =>
  k39 x1 x2_1 SM
def f12_fewest_186 (k7 : Int32 → Ob → Option (Int32 × Ob)) (k39 : Int32 → Int32 → Ob → Option (Int32 × Ob)) (x1 : Int32) (x2 : Int32) (z1 : Int32) (z2 : Int32) (SM : Ob) : Option (Int32 × Ob) :=
  ck (inb z1 256) <|
  lt (oA SM 30 (Int32.toNatClampNeg z1) z2 : Ob) fun SM_2 =>
  f12_fewest_187 k7 k39 x1 x2 SM_2
def f12_fewest_156 (k7 : Int32 → Ob → Option (Int32 × Ob)) (k39 : Int32 → Int32 → Ob → Option (Int32 × Ob)) (x1 : Int32) (x2 : Int32) (z0 : Int32) (z1 : Int32) (SM : Ob) : Option (Int32 × Ob) :=
  lt (z0 + z1 : Int32) fun x5_1 =>
  ck (inb x1 256) <|
  if (SM.2.2.1 30 (Int32.toNatClampNeg x1)) ≤ x5_1 then
    (ck (inb x1 256) <|
    f12_fewest_186 k7 k39 x1 x2 x1 (SM.2.2.1 30 (Int32.toNatClampNeg x1)) SM)
  else
    (f12_fewest_186 k7 k39 x1 x2 x1 x5_1 SM)
def f12_fewest_193 (k7 : Int32 → Ob → Option (Int32 × Ob)) (x1 : Int32) (SM : Ob) : Option (Int32 × Ob) :=
  lt (x1 + 1 : Int32) fun x1_1 =>
  k7 x1_1 SM
def f12_fewest_39 (k7 : Int32 → Ob → Option (Int32 × Ob)) : Nat → Int32 → Int32 → Ob → Option (Int32 × Ob)
  | 0, _, _, _ => none
  | n + 1, x1, x2, SM => if 64 ≤ x2 then
    (f12_fewest_193 k7 x1 SM)
  else
    (bd (f12_alone x1) fun r_2 =>
    if 0 ≤ r_2 then
      (f12_fewest_193 k7 x1 SM)
    else
      (ck (nz 8) <|
      bd (f12_isGuest (x2 / 8) SM) fun r_6 =>
      if r_6 = 0 then
        (f12_fewest_187 k7 (f12_fewest_39 k7 n) x1 x2 SM)
      else
        (ck (nz 8) <|
        bd (f12_isGuest (x2 - x2 / 8 * 8) SM) fun r_10 =>
        if r_10 = 0 then
          (f12_fewest_187 k7 (f12_fewest_39 k7 n) x1 x2 SM)
        else
          (ck (nz 8) <|
          bd (f12_guestOf (x2 / 8) 0 SM) fun r_14 =>
          if r_14 = 3 then
            (f12_fewest_187 k7 (f12_fewest_39 k7 n) x1 x2 SM)
          else
            (ck (nz 8) <|
            ck (nz 8) <|
            bd (f12_answerIn (x2 / 8) (x2 - x2 / 8 * 8) 1 SM) fun r_19 =>
            bd (f12_whoIn r_19 SM) fun r_21 =>
            lt (x1 &&& r_21 : Int32) fun x3_23 =>
            lt (x1 &&& (x3_23 ^^^ (-1)) : Int32) fun x4_24 =>
            if x3_23 = 0 then
              (f12_fewest_187 k7 (f12_fewest_39 k7 n) x1 x2 SM)
            else
              (if x4_24 = 0 then
                (f12_fewest_187 k7 (f12_fewest_39 k7 n) x1 x2 SM)
              else
                (ck (inb x3_23 256) <|
                ck (inb x4_24 256) <|
                if (SM.2.2.1 30 (Int32.toNatClampNeg x3_23)) ≤ (SM.2.2.1 30 (Int32.toNatClampNeg x4_24)) then
                  (ck (inb x4_24 256) <|
                  f12_fewest_156 k7 (f12_fewest_39 k7 n) x1 x2 1 (SM.2.2.1 30 (Int32.toNatClampNeg x4_24)) SM)
                else
                  (ck (inb x3_23 256) <|
                  f12_fewest_156 k7 (f12_fewest_39 k7 n) x1 x2 1 (SM.2.2.1 30 (Int32.toNatClampNeg x3_23)) SM))))))))
def f12_fewest_36 (k7 : Int32 → Ob → Option (Int32 × Ob)) (x1 : Int32) (z1 : Int32) (z2 : Int32) (SM : Ob) : Option (Int32 × Ob) :=
  ck (inb z1 256) <|
  lt (oA SM 30 (Int32.toNatClampNeg z1) z2 : Ob) fun SM_2 =>
  f12_fewest_39 k7 FU x1 0 SM_2
def f12_fewest_236 (z0 : Int32) (SM : Ob) : Option (Int32 × Ob) :=
  some (z0, SM)
def f12_fewest_226 (SM : Ob) : Option (Int32 × Ob) :=
  f12_fewest_236 (-1) SM
def f12_fewest_7 : Nat → Int32 → Ob → Option (Int32 × Ob)
  | 0, _, _ => none
  | n + 1, x1, SM => bd (f12_guests SM) fun r_1 =>
  if (1 <<< (r_1 &&& 31)) ≤ x1 then
    (ck (inb 0 660) <|
    bd (f12_whoIn (SM.2.2.1 25 (Int32.toNatClampNeg 0)) SM) fun r_5 =>
    if r_5 = 0 then
      (f12_fewest_226 SM)
    else
      (ck (inb r_5 256) <|
      if (SM.2.2.1 30 (Int32.toNatClampNeg r_5)) < 1000000000 then
        (ck (inb r_5 256) <|
        f12_fewest_236 (SM.2.2.1 30 (Int32.toNatClampNeg r_5)) SM)
      else
        (f12_fewest_226 SM)))
  else
    (bd (f12_alone x1) fun r_11 =>
    if r_11 < 0 then
      (f12_fewest_36 (f12_fewest_7 n) x1 x1 1000000000 SM)
    else
      (f12_fewest_36 (f12_fewest_7 n) x1 x1 0 SM))
def f12_fewest (SM : Ob) : Option (Int32 × Ob) :=
  lt (oI SM 0 0 : Ob) fun SM_1 =>
  f12_fewest_7 FU 1 SM_1
def f12_tellsAll_98 (k4 : Int32 → Int32 → Int32 → Ob → Option (Int32)) (k15 : Int32 → Int32 → Int32 → Int32 → Ob → Option (Int32)) (x1 : Int32) (x3 : Int32) (x4 : Int32) (z0 : Int32) (SM : Ob) : Option (Int32) :=
  lt (x4 + 1 : Int32) fun x4_1 =>
  k15 x1 z0 x3 x4_1 SM
def f12_tellsAll_97 (k4 : Int32 → Int32 → Int32 → Ob → Option (Int32)) (k15 : Int32 → Int32 → Int32 → Int32 → Ob → Option (Int32)) (x1 : Int32) (x3 : Int32) (x4 : Int32) (SM : Ob) : Option (Int32) :=
  f12_tellsAll_98 k4 k15 x1 x3 x4 0 SM
def f12_tellsAll_82 (k4 : Int32 → Int32 → Int32 → Ob → Option (Int32)) (k15 : Int32 → Int32 → Int32 → Int32 → Ob → Option (Int32)) (x1 : Int32) (x2 : Int32) (x3 : Int32) (x4 : Int32) (z0 : Int32) (SM : Ob) : Option (Int32) :=
  if x2 = 0 then
    (f12_tellsAll_97 k4 k15 x1 x3 x4 SM)
  else
    (if z0 = 0 then
      (f12_tellsAll_98 k4 k15 x1 x3 x4 1 SM)
    else
      (f12_tellsAll_97 k4 k15 x1 x3 x4 SM))
def f12_tellsAll_81 (k4 : Int32 → Int32 → Int32 → Ob → Option (Int32)) (k15 : Int32 → Int32 → Int32 → Int32 → Ob → Option (Int32)) (x1 : Int32) (x2 : Int32) (x3 : Int32) (x4 : Int32) (SM : Ob) : Option (Int32) :=
  f12_tellsAll_82 k4 k15 x1 x2 x3 x4 0 SM
def f12_tellsAll_15 (k4 : Int32 → Int32 → Int32 → Ob → Option (Int32)) : Nat → Int32 → Int32 → Int32 → Int32 → Ob → Option (Int32)
  | 0, _, _, _, _, _ => none
  | n + 1, x1, x2, x3, x4, SM => if x3 ≤ x4 then
    (lt (x3 + 1 : Int32) fun x3_2 =>
    k4 x1 x2 x3_2 SM)
  else
    (ck (inb 0 660) <|
    bd (f12_isIn (SM.2.2.1 25 (Int32.toNatClampNeg 0)) x3) fun r_4 =>
    if r_4 = 0 then
      (f12_tellsAll_81 k4 (f12_tellsAll_15 k4 n) x1 x2 x3 x4 SM)
    else
      (ck (inb 0 660) <|
      bd (f12_isIn (SM.2.2.1 25 (Int32.toNatClampNeg 0)) x4) fun r_8 =>
      if r_8 = 0 then
        (f12_tellsAll_81 k4 (f12_tellsAll_15 k4 n) x1 x2 x3 x4 SM)
      else
        (ck (nz 4) <|
        ck (nz 4) <|
        if (x3 / 4) = (x4 / 4) then
          (f12_tellsAll_81 k4 (f12_tellsAll_15 k4 n) x1 x2 x3 x4 SM)
        else
          (ck (inb x3 32) <|
          ck (inb x4 32) <|
          if (((SM.2.2.1 29 (Int32.toNatClampNeg x3)) ^^^ (SM.2.2.1 29 (Int32.toNatClampNeg x4))) &&& x1) = 0 then
            (f12_tellsAll_82 k4 (f12_tellsAll_15 k4 n) x1 x2 x3 x4 1 SM)
          else
            (f12_tellsAll_81 k4 (f12_tellsAll_15 k4 n) x1 x2 x3 x4 SM)))))
def f12_tellsAll_4 : Nat → Int32 → Int32 → Int32 → Ob → Option (Int32)
  | 0, _, _, _, _ => none
  | n + 1, x1, x2, x3, SM => bd (f12_worlds SM) fun r_1 =>
  if r_1 ≤ x3 then
    (ck (isz x2) (some x2))
  else
    (f12_tellsAll_15 (f12_tellsAll_4 n) FU x1 x2 x3 0 SM)
def f12_tellsAll (x1 : Int32) (SM : Ob) : Option (Int32) :=
  f12_tellsAll_4 FU x1 1 0 SM
def f12_tell_47 (k9 : Int32 → Int32 → Ob → Option (Int32 × Ob)) (x2 : Int32) (z0 : Int32) (SM : Ob) : Option (Int32 × Ob) :=
  lt (x2 + 1 : Int32) fun x2_1 =>
  k9 z0 x2_1 SM
def f12_tell_46 (k9 : Int32 → Int32 → Ob → Option (Int32 × Ob)) (x1 : Int32) (x2 : Int32) (SM : Ob) : Option (Int32 × Ob) :=
  f12_tell_47 k9 x2 x1 SM
def f12_tell_34 (k9 : Int32 → Int32 → Ob → Option (Int32 × Ob)) (x1 : Int32) (x2 : Int32) (SM : Ob) : Option (Int32 × Ob) :=
  bd (f12_tellsAll x2 SM) fun r_1 =>
  if r_1 = 0 then
    (f12_tell_46 k9 x1 x2 SM)
  else
    (f12_tell_47 k9 x2 x2 SM)
def f12_tell_9 : Nat → Int32 → Int32 → Ob → Option (Int32 × Ob)
  | 0, _, _, _ => none
  | n + 1, x1, x2, SM => bd (f12_signs SM) fun r_1 =>
  if (1 <<< (r_1 &&& 31)) ≤ x2 then
    (some (x1, SM))
  else
    (if x1 < 0 then
      (f12_tell_34 (f12_tell_9 n) x1 x2 SM)
    else
      (bd (f12_bits x2) fun r_5 =>
      bd (f12_bits x1) fun r_7 =>
      if r_7 ≤ r_5 then
        (f12_tell_46 (f12_tell_9 n) x1 x2 SM)
      else
        (f12_tell_34 (f12_tell_9 n) x1 x2 SM)))
def f12_tell (SM : Ob) : Option (Int32 × Ob) :=
  lt (oI SM 0 0 : Ob) fun SM_1 =>
  f12_tell_9 FU (-1) 0 SM_1
def f12_viewIn_58 (k6 : Int32 → Int32 → Int32 → Int32 → Int32 → Ob → Option (Int32)) (x1 : Int32) (x2 : Int32) (x3 : Int32) (x5 : Int32) (z0 : Int32) (z1 : Int32) (SM : Ob) : Option (Int32) :=
  lt (z0 ||| z1 : Int32) fun x4_1 =>
  lt (x5 + 1 : Int32) fun x5_2 =>
  k6 x1 x2 x3 x4_1 x5_2 SM
def f12_viewIn_57 (k6 : Int32 → Int32 → Int32 → Int32 → Int32 → Ob → Option (Int32)) (x1 : Int32) (x2 : Int32) (x3 : Int32) (x5 : Int32) (z0 : Int32) (SM : Ob) : Option (Int32) :=
  f12_viewIn_58 k6 x1 x2 x3 x5 z0 0 SM
def f12_viewIn_6 : Nat → Int32 → Int32 → Int32 → Int32 → Int32 → Ob → Option (Int32)
  | 0, _, _, _, _, _, _ => none
  | n + 1, x1, x2, x3, x4, x5, SM => bd (f12_worlds SM) fun r_1 =>
  if r_1 ≤ x5 then
    (some x4)
  else
    (bd (f12_isIn x1 x5) fun r_4 =>
    if r_4 = 0 then
      (f12_viewIn_57 (f12_viewIn_6 n) x1 x2 x3 x5 x4 SM)
    else
      (ck (inb x5 32) <|
      ck (inb x3 32) <|
      bd (f12_guestOf x2 3 SM) fun r_9 =>
      if (((SM.2.2.1 29 (Int32.toNatClampNeg x5)) ^^^ (SM.2.2.1 29 (Int32.toNatClampNeg x3))) &&& r_9) = 0 then
        (f12_viewIn_58 (f12_viewIn_6 n) x1 x2 x3 x5 x4 (1 <<< (x5 &&& 31)) SM)
      else
        (f12_viewIn_57 (f12_viewIn_6 n) x1 x2 x3 x5 x4 SM)))
def f12_viewIn (x1 : Int32) (x2 : Int32) (x3 : Int32) (SM : Ob) : Option (Int32) :=
  f12_viewIn_6 FU x1 x2 x3 0 0 SM
def f12_isLeft_32 (z0 : Int32) (SM : Ob) : Option (Int32) :=
  ck (isz z0) (some z0)
def f12_isLeft_31 (SM : Ob) : Option (Int32) :=
  f12_isLeft_32 0 SM
def f12_isLeft (x1 : Int32) (SM : Ob) : Option (Int32) :=
  bd (f12_worlds SM) fun r_1 =>
  bd (f12_within x1 0 (r_1 - 1)) fun r_3 =>
  if r_3 = 0 then
    (f12_isLeft_31 SM)
  else
    (ck (inb 0 660) <|
    bd (f12_isIn (SM.2.2.1 25 (Int32.toNatClampNeg 0)) x1) fun r_7 =>
    if r_7 = 0 then
      (f12_isLeft_31 SM)
    else
      (f12_isLeft_32 1 SM))
def f12_knows_41 (z0 : Int32) (SM : Ob) : Option (Int32 × Ob) :=
  some (z0, SM)
def f12_knows_40 (SM : Ob) : Option (Int32 × Ob) :=
  f12_knows_41 (-1) SM
def f12_knows (x1 : Int32) (x2 : Int32) (SM : Ob) : Option (Int32 × Ob) :=
  lt (oI SM 0 0 : Ob) fun SM_1 =>
  bd (f12_isGuest x1 SM_1) fun r_2 =>
  if r_2 = 0 then
    (f12_knows_40 SM_1)
  else
    (bd (f12_isLeft x2 SM_1) fun r_5 =>
    if r_5 = 0 then
      (f12_knows_40 SM_1)
    else
      (ck (inb 0 660) <|
      bd (f12_viewIn (SM_1.2.2.1 25 (Int32.toNatClampNeg 0)) x1 x2 SM_1) fun r_9 =>
      bd (f12_whoIn r_9 SM_1) fun r_11 =>
      f12_knows_41 r_11 SM_1))
/-! 20.m10.lean.txt -/
def f12_sure_34 (SM : Ob) : Option (Int32 × Ob) :=
  some ((-1), SM)
def f12_sure_104 (k56 : Int32 → Int32 → Int32 → Int32 → Ob → Option (Int32 × Ob)) (x2 : Int32) (x4 : Int32) (x6 : Int32) (z0 : Int32) (SM : Ob) : Option (Int32 × Ob) :=
  lt (x6 + 1 : Int32) fun x6_1 =>
  k56 x2 x4 z0 x6_1 SM
def f12_sure_102 (k56 : Int32 → Int32 → Int32 → Int32 → Ob → Option (Int32 × Ob)) (x2 : Int32) (x4 : Int32) (x5 : Int32) (x6 : Int32) (SM : Ob) : Option (Int32 × Ob) :=
  f12_sure_104 k56 x2 x4 x6 x5 SM
def f12_sure_56 : Nat → Int32 → Int32 → Int32 → Int32 → Ob → Option (Int32 × Ob)
  | 0, _, _, _, _, _ => none
  | n + 1, x2, x4, x5, x6, SM => bd (f12_worlds SM) fun r_1 =>
  if r_1 ≤ x6 then
    (some (x5, SM))
  else
    (bd (f12_isIn x4 x6) fun r_4 =>
    if r_4 = 0 then
      (f12_sure_102 (f12_sure_56 n) x2 x4 x5 x6 SM)
    else
      (ck (inb 0 660) <|
      bd (f12_viewIn (SM.2.2.1 25 (Int32.toNatClampNeg 0)) x2 x6 SM) fun r_8 =>
      bd (f12_whoIn r_8 SM) fun r_10 =>
      bd (f12_alone r_10) fun r_12 =>
      if 0 ≤ r_12 then
        (f12_sure_102 (f12_sure_56 n) x2 x4 x5 x6 SM)
      else
        (f12_sure_104 (f12_sure_56 n) x2 x4 x6 0 SM)))
def f12_sure (x1 : Int32) (x2 : Int32) (x3 : Int32) (SM : Ob) : Option (Int32 × Ob) :=
  lt (oI SM 0 0 : Ob) fun SM_1 =>
  bd (f12_isGuest x1 SM_1) fun r_2 =>
  if r_2 = 0 then
    (f12_sure_34 SM_1)
  else
    (bd (f12_isGuest x2 SM_1) fun r_5 =>
    if r_5 = 0 then
      (f12_sure_34 SM_1)
    else
      (if x1 = x2 then
        (f12_sure_34 SM_1)
      else
        (bd (f12_isLeft x3 SM_1) fun r_9 =>
        if r_9 = 0 then
          (f12_sure_34 SM_1)
        else
          (ck (inb 0 660) <|
          bd (f12_viewIn (SM_1.2.2.1 25 (Int32.toNatClampNeg 0)) x1 x3 SM_1) fun r_13 =>
          f12_sure_56 FU x2 r_13 1 0 SM_1))))
def f12_knowing_41 (k5 : Int32 → Int32 → Int32 → Int32 → Ob → Option (Int32)) (x1 : Int32) (x2 : Int32) (x4 : Int32) (z0 : Int32) (z1 : Int32) (SM : Ob) : Option (Int32) :=
  lt (z0 ||| z1 : Int32) fun x3_1 =>
  lt (x4 + 1 : Int32) fun x4_2 =>
  k5 x1 x2 x3_1 x4_2 SM
def f12_knowing_5 : Nat → Int32 → Int32 → Int32 → Int32 → Ob → Option (Int32)
  | 0, _, _, _, _, _ => none
  | n + 1, x1, x2, x3, x4, SM => bd (f12_guests SM) fun r_1 =>
  if r_1 ≤ x4 then
    (some x3)
  else
    (bd (f12_viewIn x1 x4 x2 SM) fun r_4 =>
    bd (f12_whoIn r_4 SM) fun r_6 =>
    bd (f12_alone r_6) fun r_8 =>
    if r_8 < 0 then
      (f12_knowing_41 (f12_knowing_5 n) x1 x2 x4 x3 0 SM)
    else
      (f12_knowing_41 (f12_knowing_5 n) x1 x2 x4 x3 (1 <<< (x4 &&& 31)) SM))
def f12_knowing (x1 : Int32) (x2 : Int32) (SM : Ob) : Option (Int32) :=
  f12_knowing_5 FU x1 x2 0 0 SM
def f12_rounds_22 (SM : Ob) : Option (Int32 × Ob) :=
  some ((-1), SM)
def f12_rounds_65 (z0 : Int32) (SM : Ob) : Option (Int32 × Ob) :=
  some (z0, SM)
def f12_rounds_110 (k34 : Int32 → Int32 → Int32 → Int32 → Ob → Option (Int32 × Ob)) (k72 : Int32 → Int32 → Int32 → Int32 → Int32 → Int32 → Ob → Option (Int32 × Ob)) (x1 : Int32) (x2 : Int32) (x3 : Int32) (x4 : Int32) (x7 : Int32) (z0 : Int32) (z1 : Int32) (SM : Ob) : Option (Int32 × Ob) :=
  lt (z0 ||| z1 : Int32) fun x6_1 =>
  lt (x7 + 1 : Int32) fun x7_2 =>
  k72 x1 x2 x3 x4 x6_1 x7_2 SM
def f12_rounds_109 (k34 : Int32 → Int32 → Int32 → Int32 → Ob → Option (Int32 × Ob)) (k72 : Int32 → Int32 → Int32 → Int32 → Int32 → Int32 → Ob → Option (Int32 × Ob)) (x1 : Int32) (x2 : Int32) (x3 : Int32) (x4 : Int32) (x7 : Int32) (z0 : Int32) (SM : Ob) : Option (Int32 × Ob) :=
  f12_rounds_110 k34 k72 x1 x2 x3 x4 x7 z0 0 SM
def f12_rounds_72 (k34 : Int32 → Int32 → Int32 → Int32 → Ob → Option (Int32 × Ob)) : Nat → Int32 → Int32 → Int32 → Int32 → Int32 → Int32 → Ob → Option (Int32 × Ob)
  | 0, _, _, _, _, _, _, _ => none
  | n + 1, x1, x2, x3, x4, x6, x7, SM => bd (f12_worlds SM) fun r_1 =>
  if r_1 ≤ x7 then
    (if x6 = x3 then
      (some ((-1), SM))
    else
      (lt (x4 + 1 : Int32) fun x4_5 =>
      k34 x1 x2 x6 x4_5 SM))
  else
    (bd (f12_isIn x3 x7) fun r_6 =>
    if r_6 = 0 then
      (f12_rounds_109 k34 (f12_rounds_72 k34 n) x1 x2 x3 x4 x7 x6 SM)
    else
      (bd (f12_knowing x3 x7 SM) fun r_9 =>
      if r_9 = 0 then
        (f12_rounds_110 k34 (f12_rounds_72 k34 n) x1 x2 x3 x4 x7 x6 (1 <<< (x7 &&& 31)) SM)
      else
        (f12_rounds_109 k34 (f12_rounds_72 k34 n) x1 x2 x3 x4 x7 x6 SM)))
def f12_rounds_34 : Nat → Int32 → Int32 → Int32 → Int32 → Ob → Option (Int32 × Ob)
  | 0, _, _, _, _, _ => none
  | n + 1, x1, x2, x3, x4, SM => if 33 < x4 then
    (some ((-1), SM))
  else
    (bd (f12_knowing x3 x1 SM) fun r_2 =>
    if r_2 = 0 then
      (f12_rounds_72 (f12_rounds_34 n) FU x1 x2 x3 x4 0 0 SM)
    else
      (if x2 = 0 then
        (f12_rounds_65 x4 SM)
      else
        (f12_rounds_65 r_2 SM)))
def f12_rounds (x1 : Int32) (x2 : Int32) (SM : Ob) : Option (Int32 × Ob) :=
  lt (oI SM 0 0 : Ob) fun SM_1 =>
  bd (f12_isLeft x1 SM_1) fun r_2 =>
  if r_2 = 0 then
    (f12_rounds_22 SM_1)
  else
    (bd (f12_within x2 0 1) fun r_5 =>
    if r_5 = 0 then
      (f12_rounds_22 SM_1)
    else
      (ck (inb 0 660) <|
      lt (SM_1.2.2.1 25 (Int32.toNatClampNeg 0) : Int32) fun x3_9 =>
      f12_rounds_34 FU x1 x2 x3_9 1 SM_1))
def f12_common_88 (k21 : Int32 → Int32 → Ob → Option (Int32 × Ob)) (k33 : Int32 → Int32 → Int32 → Int32 → Ob → Option (Int32 × Ob)) (x2 : Int32) (x3 : Int32) (x4 : Int32) (x5 : Int32) (SM : Ob) : Option (Int32 × Ob) :=
  lt (x5 + 1 : Int32) fun x5_1 =>
  k33 x2 x3 x4 x5_1 SM
def f12_common_45 (k21 : Int32 → Int32 → Ob → Option (Int32 × Ob)) (k33 : Int32 → Int32 → Int32 → Int32 → Ob → Option (Int32 × Ob)) : Nat → Int32 → Int32 → Int32 → Int32 → Int32 → Ob → Option (Int32 × Ob)
  | 0, _, _, _, _, _, _ => none
  | n + 1, x2, x3, x4, x5, x6, SM => bd (f12_guests SM) fun r_1 =>
  if r_1 ≤ x6 then
    (f12_common_88 k21 k33 x2 x3 x4 x5 SM)
  else
    (bd (f12_isIn x2 x5) fun r_4 =>
    if r_4 = 0 then
      (f12_common_88 k21 k33 x2 x3 x4 x5 SM)
    else
      (ck (inb 0 660) <|
      bd (f12_viewIn (SM.2.2.1 25 (Int32.toNatClampNeg 0)) x6 x5 SM) fun r_8 =>
      lt (x4 ||| r_8 : Int32) fun x4_10 =>
      lt (x6 + 1 : Int32) fun x6_11 =>
      f12_common_45 k21 k33 n x2 x3 x4_10 x5 x6_11 SM))
def f12_common_33 (k21 : Int32 → Int32 → Ob → Option (Int32 × Ob)) : Nat → Int32 → Int32 → Int32 → Int32 → Ob → Option (Int32 × Ob)
  | 0, _, _, _, _, _ => none
  | n + 1, x2, x3, x4, x5, SM => bd (f12_worlds SM) fun r_1 =>
  if r_1 ≤ x5 then
    (lt (x3 + 1 : Int32) fun x3_4 =>
    k21 x4 x3_4 SM)
  else
    (f12_common_45 k21 (f12_common_33 k21 n) FU x2 x3 x4 x5 0 SM)
def f12_common_21 : Nat → Int32 → Int32 → Ob → Option (Int32 × Ob)
  | 0, _, _, _ => none
  | n + 1, x2, x3, SM => if 32 ≤ x3 then
    (bd (f12_whoIn x2 SM) fun r_2 =>
    some (r_2, SM))
  else
    (f12_common_33 (f12_common_21 n) FU x2 x3 x2 0 SM)
def f12_common (x1 : Int32) (SM : Ob) : Option (Int32 × Ob) :=
  lt (oI SM 0 0 : Ob) fun SM_1 =>
  bd (f12_isLeft x1 SM_1) fun r_2 =>
  if r_2 = 0 then
    (some ((-1), SM_1))
  else
    (lt (1 <<< (x1 &&& 31) : Int32) fun x2_5 =>
    f12_common_21 FU x2_5 0 SM_1)
def f12_hear_31 (SM : Ob) : Option (Int32 × Ob) :=
  some (0, SM)
def f12_hear_78 (z1 : Int32) (z2 : Int32) (SM : Ob) : Option (Int32 × Ob) :=
  ck (inb z1 660) <|
  lt (oA SM 25 (Int32.toNatClampNeg z1) z2 : Ob) fun SM_2 =>
  ck (inb 12 660) <|
  ck (inb 12 660) <|
  lt (oA SM_2 25 (Int32.toNatClampNeg 12) ((SM_2.2.2.1 25 (Int32.toNatClampNeg 12)) + 1) : Ob) fun SM_5 =>
  some (1, SM_5)
def f12_hear (x1 : Int32) (x2 : Int32) (SM : Ob) : Option (Int32 × Ob) :=
  lt (oI SM 0 0 : Ob) fun SM_1 =>
  bd (f12_signs SM_1) fun r_2 =>
  bd (f12_within x1 0 (r_2 - 1)) fun r_4 =>
  if r_4 = 0 then
    (f12_hear_31 SM_1)
  else
    (ck (inb 12 660) <|
    if (SM_1.2.2.1 25 (Int32.toNatClampNeg 12)) = 8 then
      (f12_hear_31 SM_1)
    else
      (ck (inb 12 660) <|
      ck (inb (13 + (2 * (SM_1.2.2.1 25 (Int32.toNatClampNeg 12)))) 660) <|
      lt (oA SM_1 25 (Int32.toNatClampNeg (13 + (2 * (SM_1.2.2.1 25 (Int32.toNatClampNeg 12))))) x1 : Ob) fun SM_11 =>
      ck (inb 12 660) <|
      if x2 = 0 then
        (f12_hear_78 ((13 + (2 * (SM_11.2.2.1 25 (Int32.toNatClampNeg 12)))) + 1) 0 SM_11)
      else
        (f12_hear_78 ((13 + (2 * (SM_11.2.2.1 25 (Int32.toNatClampNeg 12)))) + 1) 1 SM_11)))
def f12_errsOf (x1 : Int32) (SM : Ob) : Option (Int32) :=
  ck (inb (43 + (2 * x1)) 120) <|
  some (SM.2.2.1 10 (Int32.toNatClampNeg (43 + (2 * x1))))
def f12_oddsIn_107 (k13 : Int32 → Int64 → Int32 → Ob → Option (Int64)) (x1 : Int32) (x4 : Int32) (z0 : Int64) (z1 : Int32) (SM : Ob) : Option (Int64) :=
  lt (z0 * (Int32.toInt64 z1) : Int64) fun x2_1 =>
  lt (x4 + 1 : Int32) fun x4_2 =>
  k13 x1 x2_1 x4_2 SM
def f12_oddsIn_81 (k13 : Int32 → Int64 → Int32 → Ob → Option (Int64)) (x1 : Int32) (x2 : Int64) (x4 : Int32) (x5 : Int32) (z0 : Int32) (SM : Ob) : Option (Int64) :=
  if z0 = 0 then
    (bd (f12_errsOf x5 SM) fun r_2 =>
    f12_oddsIn_107 k13 x1 x4 x2 r_2 SM)
  else
    (bd (f12_errsOf x5 SM) fun r_4 =>
    f12_oddsIn_107 k13 x1 x4 x2 (10 - r_4) SM)
def f12_oddsIn_73 (k13 : Int32 → Int64 → Int32 → Ob → Option (Int64)) (x1 : Int32) (x2 : Int64) (x4 : Int32) (x5 : Int32) (z0 : Int32) (z1 : Int32) (SM : Ob) : Option (Int64) :=
  if z0 = z1 then
    (f12_oddsIn_81 k13 x1 x2 x4 x5 1 SM)
  else
    (f12_oddsIn_81 k13 x1 x2 x4 x5 0 SM)
def f12_oddsIn_13 : Nat → Int32 → Int64 → Int32 → Ob → Option (Int64)
  | 0, _, _, _, _ => none
  | n + 1, x1, x2, x4, SM => ck (inb 12 660) <|
  if (SM.2.2.1 25 (Int32.toNatClampNeg 12)) ≤ x4 then
    (some x2)
  else
    (ck (inb (13 + (2 * x4)) 660) <|
    lt (SM.2.2.1 25 (Int32.toNatClampNeg (13 + (2 * x4))) : Int32) fun x5_4 =>
    ck (inb x5_4 6) <|
    bd (f12_isIn (SM.2.2.1 28 (Int32.toNatClampNeg x5_4)) x1) fun r_6 =>
    ck (inb ((13 + (2 * x4)) + 1) 660) <|
    if (SM.2.2.1 25 (Int32.toNatClampNeg ((13 + (2 * x4)) + 1))) = 1 then
      (f12_oddsIn_73 (f12_oddsIn_13 n) x1 x2 x4 x5_4 r_6 1 SM)
    else
      (f12_oddsIn_73 (f12_oddsIn_13 n) x1 x2 x4 x5_4 r_6 0 SM))
def f12_oddsIn (x1 : Int32) (SM : Ob) : Option (Int64) :=
  ck (nz 4) <|
  bd (f12_guestOf (x1 / 4) 2 SM) fun r_2 =>
  lt (Int32.toInt64 r_2 : Int64) fun x2_4 =>
  f12_oddsIn_13 FU x1 x2_4 0 SM
def f12_oddsOf_42 (k7 : Int32 → Int64 → Int32 → Ob → Option (Int64)) (x1 : Int32) (x4 : Int32) (z0 : Int64) (z1 : Int64) (SM : Ob) : Option (Int64) :=
  lt (z0 + z1 : Int64) fun x2_1 =>
  lt (x4 + 1 : Int32) fun x4_2 =>
  k7 x1 x2_1 x4_2 SM
def f12_oddsOf_7 : Nat → Int32 → Int64 → Int32 → Ob → Option (Int64)
  | 0, _, _, _, _ => none
  | n + 1, x1, x2, x4, SM => if ((4 * x1) + 4) ≤ x4 then
    (some x2)
  else
    (ck (inb 0 660) <|
    bd (f12_isIn (SM.2.2.1 25 (Int32.toNatClampNeg 0)) x4) fun r_3 =>
    if r_3 = 0 then
      (f12_oddsOf_42 (f12_oddsOf_7 n) x1 x4 x2 0 SM)
    else
      (bd (f12_oddsIn x4 SM) fun r_6 =>
      f12_oddsOf_42 (f12_oddsOf_7 n) x1 x4 x2 r_6 SM))
def f12_oddsOf (x1 : Int32) (SM : Ob) : Option (Int64) :=
  lt (4 * x1 : Int32) fun x4_1 =>
  f12_oddsOf_7 FU x1 0 x4_1 SM
/-! 21.m11.lean.txt -/
def f12_likely_56 (k12 : Int32 → Int64 → Int32 → Ob → Option (Int32 × Ob)) (x1 : Int32) (x4 : Int32) (z0 : Int64) (SM : Ob) : Option (Int32 × Ob) :=
  lt (x4 + 1 : Int32) fun x4_1 =>
  k12 x1 z0 x4_1 SM
def f12_likely_42 (k12 : Int32 → Int64 → Int32 → Ob → Option (Int32 × Ob)) (x2 : Int64) (x4 : Int32) (x5 : Int64) (z0 : Int32) (SM : Ob) : Option (Int32 × Ob) :=
  if (lg_cmp x5 x2) ≤ 0 then
    (f12_likely_56 k12 z0 x4 x2 SM)
  else
    (f12_likely_56 k12 z0 x4 x5 SM)
def f12_likely_12 : Nat → Int32 → Int64 → Int32 → Ob → Option (Int32 × Ob)
  | 0, _, _, _, _ => none
  | n + 1, x1, x2, x4, SM => bd (f12_guests SM) fun r_1 =>
  if r_1 ≤ x4 then
    (some (x1, SM))
  else
    (bd (f12_oddsOf x4 SM) fun r_4 =>
    if (lg_cmp r_4 x2) ≤ 0 then
      (f12_likely_42 (f12_likely_12 n) x2 x4 r_4 x1 SM)
    else
      (f12_likely_42 (f12_likely_12 n) x2 x4 r_4 x4 SM))
def f12_likely (SM : Ob) : Option (Int32 × Ob) :=
  lt (oI SM 0 0 : Ob) fun SM_1 =>
  f12_likely_12 FU (-1) 0 0 SM_1
def f12_odds_64 (z0 : Int32) (SM : Ob) : Option (Int32 × Ob) :=
  some (z0, SM)
def f12_odds_48 (SM : Ob) : Option (Int32 × Ob) :=
  f12_odds_64 (-1) SM
def f12_odds_10 : Nat → Int32 → Int64 → Int32 → Ob → Option (Int32 × Ob)
  | 0, _, _, _, _ => none
  | n + 1, x1, x2, x4, SM => bd (f12_guests SM) fun r_1 =>
  if r_1 ≤ x4 then
    (bd (f12_isGuest x1 SM) fun r_4 =>
    if r_4 = 0 then
      (f12_odds_48 SM)
    else
      (if (lg_cmp x2 0) = 0 then
        (f12_odds_48 SM)
      else
        (bd (f12_oddsOf x1 SM) fun r_8 =>
        ck (nzl x2) <|
        f12_odds_64 (Int64.toInt32 ((r_8 * 1000000) / x2)) SM)))
  else
    (bd (f12_oddsOf x4 SM) fun r_11 =>
    lt (x2 + r_11 : Int64) fun x2_13 =>
    lt (x4 + 1 : Int32) fun x4_14 =>
    f12_odds_10 n x1 x2_13 x4_14 SM)
def f12_odds (x1 : Int32) (SM : Ob) : Option (Int32 × Ob) :=
  lt (oI SM 0 0 : Ob) fun SM_1 =>
  f12_odds_10 FU x1 0 0 SM_1
def f12_errors_36 (SM : Ob) : Option (Int32 × Ob) :=
  some ((-1), SM)
def f12_errors_178 (k47 : Int32 → Int32 → Int32 → Int64 → Int64 → Int32 → Ob → Option (Int32 × Ob)) (x1 : Int32) (x2 : Int32) (x3 : Int32) (x4 : Int64) (x6 : Int64) (x8 : Int32) (SM : Ob) : Option (Int32 × Ob) :=
  lt (x8 + 1 : Int32) fun x8_1 =>
  k47 x1 x2 x3 x4 x6 x8_1 SM
def f12_errors_154 (k47 : Int32 → Int32 → Int32 → Int64 → Int64 → Int32 → Ob → Option (Int32 × Ob)) (x1 : Int32) (x2 : Int32) (x3 : Int32) (x6 : Int64) (x8 : Int32) (z0 : Int64) (z1 : Int64) (z2 : Int32) (SM : Ob) : Option (Int32 × Ob) :=
  lt (z0 + (z1 * (Int32.toInt64 z2)) : Int64) fun x4_1 =>
  ck (nz 4) <|
  bd (f12_guestOf (x8 / 4) 2 SM) fun r_3 =>
  lt (x6 + (10 * (Int32.toInt64 r_3)) : Int64) fun x6_5 =>
  f12_errors_178 k47 x1 x2 x3 x4_1 x6_5 x8 SM
def f12_errors_126 (k47 : Int32 → Int32 → Int32 → Int64 → Int64 → Int32 → Ob → Option (Int32 × Ob)) (x1 : Int32) (x2 : Int32) (x3 : Int32) (x4 : Int64) (x6 : Int64) (x8 : Int32) (z0 : Int32) (SM : Ob) : Option (Int32 × Ob) :=
  ck (nz 4) <|
  bd (f12_guestOf (x8 / 4) 2 SM) fun r_2 =>
  if x3 = 0 then
    (f12_errors_154 k47 x1 x2 x3 x6 x8 x4 (Int32.toInt64 r_2) z0 SM)
  else
    (f12_errors_154 k47 x1 x2 x3 x6 x8 x4 (Int32.toInt64 r_2) (10 - z0) SM)
def f12_errors_93 (k47 : Int32 → Int32 → Int32 → Int64 → Int64 → Int32 → Ob → Option (Int32 × Ob)) (x1 : Int32) (x2 : Int32) (x3 : Int32) (x4 : Int64) (x6 : Int64) (x8 : Int32) (z0 : Int32) (z1 : Int32) (SM : Ob) : Option (Int32 × Ob) :=
  if z0 = z1 then
    (ck (inb x2 6) <|
    bd (f12_isIn (SM.2.2.1 28 (Int32.toNatClampNeg x2)) x8) fun r_3 =>
    if r_3 = 0 then
      (bd (f12_errsOf x2 SM) fun r_6 =>
      f12_errors_126 k47 x1 x2 x3 x4 x6 x8 r_6 SM)
    else
      (bd (f12_errsOf x2 SM) fun r_8 =>
      f12_errors_126 k47 x1 x2 x3 x4 x6 x8 (10 - r_8) SM))
  else
    (f12_errors_178 k47 x1 x2 x3 x4 x6 x8 SM)
def f12_errors_83 (k47 : Int32 → Int32 → Int32 → Int64 → Int64 → Int32 → Ob → Option (Int32 × Ob)) (x1 : Int32) (x2 : Int32) (x3 : Int32) (x4 : Int64) (x6 : Int64) (x8 : Int32) (z0 : Int32) (SM : Ob) : Option (Int32 × Ob) :=
  if x3 = 1 then
    (f12_errors_93 k47 x1 x2 x3 x4 x6 x8 z0 1 SM)
  else
    (f12_errors_93 k47 x1 x2 x3 x4 x6 x8 z0 0 SM)
def f12_errors_205 (z0 : Int32) (SM : Ob) : Option (Int32 × Ob) :=
  some (z0, SM)
def f12_errors_47 : Nat → Int32 → Int32 → Int32 → Int64 → Int64 → Int32 → Ob → Option (Int32 × Ob)
  | 0, _, _, _, _, _, _, _ => none
  | n + 1, x1, x2, x3, x4, x6, x8, SM => bd (f12_worlds SM) fun r_1 =>
  if r_1 ≤ x8 then
    (if (lg_cmp x6 0) = 0 then
      (f12_errors_205 (-1) SM)
    else
      (ck (nzl x6) <|
      f12_errors_205 (Int64.toInt32 ((x4 * 1000000) / x6)) SM))
  else
    (ck (inb 0 660) <|
    bd (f12_isIn (SM.2.2.1 25 (Int32.toNatClampNeg 0)) x8) fun r_7 =>
    if r_7 = 0 then
      (f12_errors_178 (f12_errors_47 n) x1 x2 x3 x4 x6 x8 SM)
    else
      (ck (nz 4) <|
      if (x8 / 4) = x1 then
        (f12_errors_83 (f12_errors_47 n) x1 x2 x3 x4 x6 x8 1 SM)
      else
        (f12_errors_83 (f12_errors_47 n) x1 x2 x3 x4 x6 x8 0 SM)))
def f12_errors (x1 : Int32) (x2 : Int32) (x3 : Int32) (SM : Ob) : Option (Int32 × Ob) :=
  lt (oI SM 0 0 : Ob) fun SM_1 =>
  bd (f12_isGuest x1 SM_1) fun r_2 =>
  if r_2 = 0 then
    (f12_errors_36 SM_1)
  else
    (bd (f12_signs SM_1) fun r_5 =>
    bd (f12_within x2 0 (r_5 - 1)) fun r_7 =>
    if r_7 = 0 then
      (f12_errors_36 SM_1)
    else
      (bd (f12_within x3 0 1) fun r_10 =>
      if r_10 = 0 then
        (f12_errors_36 SM_1)
      else
        (f12_errors_47 FU x1 x2 x3 0 0 0 SM_1)))
def f12_findRooms_72 (k34 : Int32 → Int32 → Ob → Option (Int32 × Ob)) (x1 : Int32) (x2 : Int32) (z1 : Int32) (z2 : Int32) (z3 : Int32) (SM : Ob) : Option (Int32 × Ob) :=
  ck (inb z1 13) <|
  lt (oA SM 31 (Int32.toNatClampNeg z1) (z2 + z3) : Ob) fun SM_2 =>
  lt (x2 + 1 : Int32) fun x2_3 =>
  k34 x1 x2_3 SM_2
def f12_findRooms_163 (k84 : Int32 → Int32 → Ob → Option (Int32 × Ob)) (x2 : Int32) (x3 : Int32) (SM : Ob) : Option (Int32 × Ob) :=
  lt (x3 + 1 : Int32) fun x3_1 =>
  k84 x2 x3_1 SM
def f12_findRooms_152 (k84 : Int32 → Int32 → Ob → Option (Int32 × Ob)) (x2 : Int32) (x3 : Int32) (x4 : Int32) (SM : Ob) : Option (Int32 × Ob) :=
  ck (inb x4 12) <|
  lt (oA SM 32 (Int32.toNatClampNeg x4) x3 : Ob) fun SM_2 =>
  lt (x2 + 1 : Int32) fun x2_3 =>
  f12_findRooms_163 k84 x2_3 x3 SM_2
def f12_findRooms_102 (k84 : Int32 → Int32 → Ob → Option (Int32 × Ob)) : Nat → Int32 → Int32 → Int32 → Ob → Option (Int32 × Ob)
  | 0, _, _, _, _ => none
  | n + 1, x2, x3, x4, SM => if x4 ≤ 0 then
    (f12_findRooms_152 k84 x2 x3 x4 SM)
  else
    (ck (inb (x4 - 1) 12) <|
    ck (inb (SM.2.2.1 32 (Int32.toNatClampNeg (x4 - 1))) 13) <|
    ck (inb x3 13) <|
    if (SM.2.2.1 31 (Int32.toNatClampNeg x3)) ≤ (SM.2.2.1 31 (Int32.toNatClampNeg (SM.2.2.1 32 (Int32.toNatClampNeg (x4 - 1))))) then
      (f12_findRooms_152 k84 x2 x3 x4 SM)
    else
      (ck (inb (x4 - 1) 12) <|
      ck (inb x4 12) <|
      lt (oA SM 32 (Int32.toNatClampNeg x4) (SM.2.2.1 32 (Int32.toNatClampNeg (x4 - 1))) : Ob) fun SM_8 =>
      lt (x4 + (-1) : Int32) fun x4_9 =>
      f12_findRooms_102 k84 n x2 x3 x4_9 SM_8))
def f12_findRooms_84 : Nat → Int32 → Int32 → Ob → Option (Int32 × Ob)
  | 0, _, _, _ => none
  | n + 1, x2, x3, SM => if 13 ≤ x3 then
    (some (x2, SM))
  else
    (ck (inb x3 13) <|
    if (SM.2.2.1 31 (Int32.toNatClampNeg x3)) ≤ 0 then
      (f12_findRooms_163 (f12_findRooms_84 n) x2 x3 SM)
    else
      (f12_findRooms_102 (f12_findRooms_84 n) FU x2 x3 x2 SM))
def f12_findRooms_34 : Nat → Int32 → Int32 → Ob → Option (Int32 × Ob)
  | 0, _, _, _ => none
  | n + 1, x1, x2, SM => bd (f12_guests SM) fun r_1 =>
  if r_1 ≤ x2 then
    (f12_findRooms_84 FU 0 1 SM)
  else
    (bd (f12_guestOf x2 1 SM) fun r_4 =>
    ck (inb r_4 13) <|
    bd (f12_isIn x1 x2) fun r_7 =>
    if r_7 = 0 then
      (f12_findRooms_72 (f12_findRooms_34 n) x1 x2 r_4 (SM.2.2.1 31 (Int32.toNatClampNeg r_4)) 0 SM)
    else
      (bd (f12_guestOf x2 2 SM) fun r_10 =>
      f12_findRooms_72 (f12_findRooms_34 n) x1 x2 r_4 (SM.2.2.1 31 (Int32.toNatClampNeg r_4)) r_10 SM))
def f12_findRooms_13 : Nat → Int32 → Int32 → Ob → Option (Int32 × Ob)
  | 0, _, _, _ => none
  | n + 1, x1, x2, SM => if 13 ≤ x2 then
    (f12_findRooms_34 FU x1 0 SM)
  else
    (ck (inb x2 13) <|
    lt (oA SM 31 (Int32.toNatClampNeg x2) 0 : Ob) fun SM_3 =>
    lt (x2 + 1 : Int32) fun x2_4 =>
    f12_findRooms_13 n x1 x2_4 SM_3)
def f12_findRooms (SM : Ob) : Option (Int32 × Ob) :=
  ck (inb 0 660) <|
  bd (f12_whoIn (SM.2.2.1 25 (Int32.toNatClampNeg 0)) SM) fun r_2 =>
  f12_findRooms_13 FU r_2 0 SM
def f12_hunt_25 (SM : Ob) : Option (Int32 × Ob) :=
  some ((-1), SM)
def f12_hunt_120 (z0 : Int32) (SM : Ob) : Option (Int32 × Ob) :=
  some (z0, SM)
def f12_hunt_35 : Nat → Int32 → Int32 → Int64 → Int64 → Int32 → Ob → Option (Int32 × Ob)
  | 0, _, _, _, _, _, _ => none
  | n + 1, x1, x2, x3, x5, x7, SM => if x2 ≤ x7 then
    (if x1 = 0 then
      (ck (nzl x5) <|
      f12_hunt_120 (Int64.toInt32 ((x3 * 1000) / x5)) SM)
    else
      (if x1 = 1 then
        (f12_hunt_120 x2 SM)
      else
        (ck (inb (x1 - 2) 12) <|
        f12_hunt_120 (SM.2.2.1 32 (Int32.toNatClampNeg (x1 - 2))) SM)))
  else
    (ck (inb x7 12) <|
    ck (inb (SM.2.2.1 32 (Int32.toNatClampNeg x7)) 13) <|
    lt (x3 + ((Int32.toInt64 (x7 + 1)) * (Int32.toInt64 (SM.2.2.1 31 (Int32.toNatClampNeg (SM.2.2.1 32 (Int32.toNatClampNeg x7)))))) : Int64) fun x3_8 =>
    ck (inb x7 12) <|
    ck (inb (SM.2.2.1 32 (Int32.toNatClampNeg x7)) 13) <|
    lt (x5 + (Int32.toInt64 (SM.2.2.1 31 (Int32.toNatClampNeg (SM.2.2.1 32 (Int32.toNatClampNeg x7))))) : Int64) fun x5_11 =>
    lt (x7 + 1 : Int32) fun x7_12 =>
    f12_hunt_35 n x1 x2 x3_8 x5_11 x7_12 SM)
def f12_hunt (x1 : Int32) (SM : Ob) : Option (Int32 × Ob) :=
  lt (oI SM 0 0 : Ob) fun SM_1 =>
  bd (f12_findRooms SM_1) fun r_2 =>
  lt (r_2.1 : Int32) fun x2_4 =>
  if x2_4 = 0 then
    (f12_hunt_25 (r_2.2))
  else
    (bd (f12_within x1 0 (1 + x2_4)) fun r_6 =>
    if r_6 = 0 then
      (f12_hunt_25 (r_2.2))
    else
      (f12_hunt_35 FU x1 x2_4 0 0 0 (r_2.2)))
/-! 22.m12.lean.txt -/
def f12_same_92 (k31 : Int32 → Int32 → Int32 → Int32 → Ob → Option (Int32 × Ob)) (x1 : Int32) (x2 : Int32) (x4 : Int32) (z0 : Int32) (SM : Ob) : Option (Int32 × Ob) :=
  lt (x4 + 1 : Int32) fun x4_1 =>
  k31 x1 x2 z0 x4_1 SM
def f12_same_91 (k31 : Int32 → Int32 → Int32 → Int32 → Ob → Option (Int32 × Ob)) (x1 : Int32) (x2 : Int32) (x3 : Int32) (x4 : Int32) (SM : Ob) : Option (Int32 × Ob) :=
  f12_same_92 k31 x1 x2 x4 x3 SM
def f12_same_76 (k31 : Int32 → Int32 → Int32 → Int32 → Ob → Option (Int32 × Ob)) (x1 : Int32) (x3 : Int32) (x4 : Int32) (z0 : Int32) (z1 : Int32) (SM : Ob) : Option (Int32 × Ob) :=
  lt (z0 &&& z1 : Int32) fun x2_1 =>
  if x2_1 = 0 then
    (if 0 ≤ x3 then
      (f12_same_91 k31 x1 x2_1 x3 x4 SM)
    else
      (f12_same_92 k31 x1 x2_1 x4 x4 SM))
  else
    (f12_same_91 k31 x1 x2_1 x3 x4 SM)
def f12_same_108 (z0 : Int32) (SM : Ob) : Option (Int32 × Ob) :=
  some (z0, SM)
def f12_same_31 : Nat → Int32 → Int32 → Int32 → Int32 → Ob → Option (Int32 × Ob)
  | 0, _, _, _, _, _ => none
  | n + 1, x1, x2, x3, x4, SM => ck (inb 1 660) <|
  if (SM.2.2.1 25 (Int32.toNatClampNeg 1)) < x4 then
    (if x1 = 0 then
      (f12_same_108 x2 SM)
    else
      (f12_same_108 x3 SM))
  else
    (ck (inb 1 660) <|
    if (SM.2.2.1 25 (Int32.toNatClampNeg 1)) ≤ x4 then
      (ck (inb 0 660) <|
      bd (f12_whoIn (SM.2.2.1 25 (Int32.toNatClampNeg 0)) SM) fun r_7 =>
      f12_same_76 (f12_same_31 n) x1 x3 x4 x2 r_7 SM)
    else
      (ck (inb (2 + x4) 660) <|
      f12_same_76 (f12_same_31 n) x1 x3 x4 x2 (SM.2.2.1 25 (Int32.toNatClampNeg (2 + x4))) SM))
def f12_same (x1 : Int32) (SM : Ob) : Option (Int32 × Ob) :=
  lt (oI SM 0 0 : Ob) fun SM_1 =>
  bd (f12_within x1 0 1) fun r_2 =>
  if r_2 = 0 then
    (some ((-2), SM_1))
  else
    (bd (f12_guests SM_1) fun r_5 =>
    lt ((1 <<< (r_5 &&& 31)) - 1 : Int32) fun x2_7 =>
    f12_same_31 FU x1 x2_7 (-1) 0 SM_1)
def f12_bill_24 (SM : Ob) : Option (Int32 × Ob) :=
  some ((-1), SM)
def f12_bill_130 (k31 : Int32 → Int32 → Int32 → Int32 → Ob → Option (Int32 × Ob)) (x1 : Int32) (x2 : Int32) (x3 : Int32) (x4 : Int32) (z1 : Int32) (z2 : Int32) (SM : Ob) : Option (Int32 × Ob) :=
  ck (inb z1 8) <|
  lt (oA SM 33 (Int32.toNatClampNeg z1) z2 : Ob) fun SM_2 =>
  ck (inb x4 8) <|
  lt (x3 + (SM_2.2.2.1 33 (Int32.toNatClampNeg x4)) : Int32) fun x3_4 =>
  lt (x4 + 1 : Int32) fun x4_5 =>
  k31 x1 x2 x3_4 x4_5 SM_2
def f12_bill_99 (k31 : Int32 → Int32 → Int32 → Int32 → Ob → Option (Int32 × Ob)) (x1 : Int32) (x2 : Int32) (x3 : Int32) (x4 : Int32) (z0 : Int32) (SM : Ob) : Option (Int32 × Ob) :=
  if 0 ≤ z0 then
    (if z0 ≤ 99 then
      (f12_bill_130 k31 x1 x2 x3 x4 x4 z0 SM)
    else
      (f12_bill_130 k31 x1 x2 x3 x4 x4 99 SM))
  else
    (f12_bill_130 k31 x1 x2 x3 x4 x4 0 SM)
def f12_bill_271 (k225 : Int32 → Int32 → Int32 → Ob → Option (Int32 × Ob)) (k238 : Int32 → Int32 → Int32 → Int32 → Int32 → Ob → Option (Int32 × Ob)) (x2 : Int32) (x4 : Int32) (x5 : Int32) (x7 : Int32) (z0 : Int32) (SM : Ob) : Option (Int32 × Ob) :=
  lt (x7 + 1 : Int32) fun x7_1 =>
  k238 x2 x4 x5 z0 x7_1 SM
def f12_bill_238 (k225 : Int32 → Int32 → Int32 → Ob → Option (Int32 × Ob)) : Nat → Int32 → Int32 → Int32 → Int32 → Int32 → Ob → Option (Int32 × Ob)
  | 0, _, _, _, _, _, _ => none
  | n + 1, x2, x4, x5, x6, x7, SM => bd (f12_guests SM) fun r_1 =>
  if r_1 ≤ x7 then
    (ck (inb x6 8) <|
    ck (inb x6 8) <|
    lt (oA SM 33 (Int32.toNatClampNeg x6) ((SM.2.2.1 33 (Int32.toNatClampNeg x6)) + 1) : Ob) fun SM_6 =>
    ck (inb x6 8) <|
    lt (oA SM_6 34 (Int32.toNatClampNeg x6) (-1) : Ob) fun SM_8 =>
    lt (x5 + 1 : Int32) fun x5_9 =>
    k225 x2 x4 x5_9 SM_8)
  else
    (ck (inb x7 8) <|
    ck (inb x6 8) <|
    if (SM.2.2.1 34 (Int32.toNatClampNeg x7)) ≤ (SM.2.2.1 34 (Int32.toNatClampNeg x6)) then
      (f12_bill_271 k225 (f12_bill_238 k225 n) x2 x4 x5 x7 x6 SM)
    else
      (f12_bill_271 k225 (f12_bill_238 k225 n) x2 x4 x5 x7 x7 SM))
def f12_bill_225 : Nat → Int32 → Int32 → Int32 → Ob → Option (Int32 × Ob)
  | 0, _, _, _, _ => none
  | n + 1, x2, x4, x5, SM => if x4 ≤ x5 then
    (ck (inb x2 8) <|
    some (SM.2.2.1 33 (Int32.toNatClampNeg x2), SM))
  else
    (f12_bill_238 (f12_bill_225 n) FU x2 x4 x5 0 1 SM)
def f12_bill_159 : Nat → Int32 → Int32 → Int32 → Int32 → Int32 → Ob → Option (Int32 × Ob)
  | 0, _, _, _, _, _, _ => none
  | n + 1, x1, x2, x3, x4, x5, SM => bd (f12_guests SM) fun r_1 =>
  if r_1 ≤ x5 then
    (f12_bill_225 FU x2 x4 0 SM)
  else
    (ck (inb x5 8) <|
    ck (nz x3) <|
    ck (inb x5 8) <|
    lt (oA SM 34 (Int32.toNatClampNeg x5) ((x1 * (SM.2.2.1 33 (Int32.toNatClampNeg x5))) - (x1 * (SM.2.2.1 33 (Int32.toNatClampNeg x5))) / x3 * x3) : Ob) fun SM_7 =>
    ck (inb x5 8) <|
    ck (nz x3) <|
    ck (inb x5 8) <|
    lt (oA SM_7 33 (Int32.toNatClampNeg x5) ((x1 * (SM_7.2.2.1 33 (Int32.toNatClampNeg x5))) / x3) : Ob) fun SM_11 =>
    ck (inb x5 8) <|
    lt (x4 - (SM_11.2.2.1 33 (Int32.toNatClampNeg x5)) : Int32) fun x4_13 =>
    lt (x5 + 1 : Int32) fun x5_14 =>
    f12_bill_159 n x1 x2 x3 x4_13 x5_14 SM_11)
def f12_bill_31 : Nat → Int32 → Int32 → Int32 → Int32 → Ob → Option (Int32 × Ob)
  | 0, _, _, _, _, _ => none
  | n + 1, x1, x2, x3, x4, SM => bd (f12_guests SM) fun r_1 =>
  if r_1 ≤ x4 then
    (if x3 = 0 then
      (some (0, SM))
    else
      (f12_bill_159 FU x1 x2 x3 x1 0 SM))
  else
    (bd (f12_guestOf x4 1 SM) fun r_5 =>
    ck (inb 0 3) <|
    lt (oA SM 23 (Int32.toNatClampNeg 0) r_5 : Ob) fun SM_8 =>
    bd (f12_guestOf x4 2 SM_8) fun r_9 =>
    ck (inb 1 3) <|
    lt (oA SM_8 23 (Int32.toNatClampNeg 1) r_9 : Ob) fun SM_12 =>
    bd (f12_guests SM_12) fun r_13 =>
    ck (inb 2 3) <|
    lt (oA SM_12 23 (Int32.toNatClampNeg 2) r_13 : Ob) fun SM_16 =>
    ck (inb 2 120) <|
    if 0 ≤ (SM_16.2.2.1 10 (Int32.toNatClampNeg 2)) then
      (ck (inb 2 120) <|
      bd (f12_worthAt (SM_16.2.2.1 10 (Int32.toNatClampNeg 2)) SM_16) fun r_20 =>
      f12_bill_99 (f12_bill_31 n) x1 x2 x3 x4 (r_20.1) (r_20.2))
    else
      (f12_bill_99 (f12_bill_31 n) x1 x2 x3 x4 1 SM_16))
def f12_bill (x1 : Int32) (x2 : Int32) (SM : Ob) : Option (Int32 × Ob) :=
  lt (oI SM 0 0 : Ob) fun SM_1 =>
  bd (f12_isGuest x2 SM_1) fun r_2 =>
  if r_2 = 0 then
    (f12_bill_24 SM_1)
  else
    (bd (f12_within x1 0 9999) fun r_5 =>
    if r_5 = 0 then
      (f12_bill_24 SM_1)
    else
      (f12_bill_31 FU x1 x2 0 0 SM_1))
def f12_mayLie_68 (k8 : Int32 → Int32 → Int32 → Int32 → Int32 → Ob → Option (Int32)) (x1 : Int32) (x2 : Int32) (x3 : Int32) (x5 : Int32) (z0 : Int32) (SM : Ob) : Option (Int32) :=
  lt (x5 + 1 : Int32) fun x5_1 =>
  k8 x1 x2 x3 z0 x5_1 SM
def f12_mayLie_63 (k8 : Int32 → Int32 → Int32 → Int32 → Int32 → Ob → Option (Int32)) (x1 : Int32) (x2 : Int32) (x3 : Int32) (x5 : Int32) (SM : Ob) : Option (Int32) :=
  f12_mayLie_68 k8 x1 x2 x3 x5 1 SM
def f12_mayLie_67 (k8 : Int32 → Int32 → Int32 → Int32 → Int32 → Ob → Option (Int32)) (x1 : Int32) (x2 : Int32) (x3 : Int32) (x5 : Int32) (SM : Ob) : Option (Int32) :=
  f12_mayLie_68 k8 x1 x2 x3 x5 0 SM
def f12_mayLie_31 (k8 : Int32 → Int32 → Int32 → Int32 → Int32 → Ob → Option (Int32)) (x1 : Int32) (x2 : Int32) (x4 : Int32) (x5 : Int32) (z0 : Int32) (z1 : Int32) (SM : Ob) : Option (Int32) :=
  lt (z0 + z1 : Int32) fun x3_1 =>
  if x4 = 0 then
    (f12_mayLie_67 k8 x1 x2 x3_1 x5 SM)
  else
    (ck (inb x5 8) <|
    if (SM.2.2.1 35 (Int32.toNatClampNeg x5)) = x2 then
      (bd (f12_guestOf x1 4 SM) fun r_5 =>
      bd (f12_isIn r_5 x5) fun r_7 =>
      if r_7 = 0 then
        (f12_mayLie_63 k8 x1 x2 x3_1 x5 SM)
      else
        (f12_mayLie_67 k8 x1 x2 x3_1 x5 SM))
    else
      (f12_mayLie_63 k8 x1 x2 x3_1 x5 SM))
def f12_mayLie_91 (z0 : Int32) (SM : Ob) : Option (Int32) :=
  ck (isz z0) (some z0)
def f12_mayLie_90 (SM : Ob) : Option (Int32) :=
  f12_mayLie_91 0 SM
def f12_mayLie_8 : Nat → Int32 → Int32 → Int32 → Int32 → Int32 → Ob → Option (Int32)
  | 0, _, _, _, _, _, _ => none
  | n + 1, x1, x2, x3, x4, x5, SM => if x1 ≤ x5 then
    (if x4 = 0 then
      (f12_mayLie_90 SM)
    else
      (if 3 ≤ x3 then
        (f12_mayLie_90 SM)
      else
        (f12_mayLie_91 1 SM)))
  else
    (ck (inb x5 8) <|
    if (SM.2.2.1 35 (Int32.toNatClampNeg x5)) = x2 then
      (f12_mayLie_31 (f12_mayLie_8 n) x1 x2 x4 x5 x3 1 SM)
    else
      (f12_mayLie_31 (f12_mayLie_8 n) x1 x2 x4 x5 x3 0 SM))
def f12_mayLie (x1 : Int32) (x2 : Int32) (SM : Ob) : Option (Int32) :=
  f12_mayLie_8 FU x1 x2 0 1 0 SM
/-! 23.m13.lean.txt -/
def f12_goesThrough_31 (rec : Int32 → Int32 → Ob → Option (Ob)) : Nat → Int32 → Int32 → Ob → Option (Ob)
  | 0, _, _, _ => none
  | n + 1, x1, x3, SM => if x1 ≤ x3 then
    (some SM)
  else
    (ck (inb x3 8) <|
    ck (inb x3 8) <|
    lt (oA SM 36 (Int32.toNatClampNeg x3) (SM.2.2.1 35 (Int32.toNatClampNeg x3)) : Ob) fun SM_4 =>
    lt (x3 + 1 : Int32) fun x3_5 =>
    f12_goesThrough_31 rec n x1 x3_5 SM_4)
def f12_goesThrough_97 (rec : Int32 → Int32 → Ob → Option (Ob)) (k57 : Int32 → Int32 → Int32 → Ob → Option (Ob)) (x1 : Int32) (x2 : Int32) (x3 : Int32) (SM : Ob) : Option (Ob) :=
  lt (x3 + 1 : Int32) fun x3_1 =>
  k57 x1 x2 x3_1 SM
def f12_goesThrough_94 (rec : Int32 → Int32 → Ob → Option (Ob)) (k57 : Int32 → Int32 → Int32 → Ob → Option (Ob)) (x1 : Int32) (x2 : Int32) (x3 : Int32) (z1 : Int32) (z2 : Int32) (SM : Ob) : Option (Ob) :=
  bd (rec z1 z2 SM) fun r_1 =>
  f12_goesThrough_97 rec k57 x1 x2 x3 r_1
def f12_goesThrough_57 (rec : Int32 → Int32 → Ob → Option (Ob)) : Nat → Int32 → Int32 → Int32 → Ob → Option (Ob)
  | 0, _, _, _, _ => none
  | n + 1, x1, x2, x3, SM => if x2 < x3 then
    (some SM)
  else
    (bd (f12_mayLie x1 x3 SM) fun r_2 =>
    if r_2 = 0 then
      (f12_goesThrough_97 rec (f12_goesThrough_57 rec n) x1 x2 x3 SM)
    else
      (ck (inb x1 8) <|
      lt (oA SM 35 (Int32.toNatClampNeg x1) x3 : Ob) fun SM_6 =>
      if x3 = x2 then
        (f12_goesThrough_94 rec (f12_goesThrough_57 rec n) x1 x2 x3 (x1 + 1) (x2 + 1) SM_6)
      else
        (f12_goesThrough_94 rec (f12_goesThrough_57 rec n) x1 x2 x3 (x1 + 1) x2 SM_6)))
def f12_goesThrough_16 (rec : Int32 → Int32 → Ob → Option (Ob)) (x1 : Int32) (x2 : Int32) (SM : Ob) : Option (Ob) :=
  bd (f12_guests SM) fun r_1 =>
  if x1 = r_1 then
    (lt (oI SM 37 x2 : Ob) fun SM_4 =>
    f12_goesThrough_31 rec FU x1 0 SM_4)
  else
    (f12_goesThrough_57 rec FU x1 x2 0 SM)
def f12_goesThrough_b (rec : Int32 → Int32 → Ob → Option (Ob)) (x1 : Int32) (x2 : Int32) (SM : Ob) : Option (Ob) :=
  if (SM.1 37) < 0 then
    (f12_goesThrough_16 rec x1 x2 SM)
  else
    (if x2 < (SM.1 37) then
      (f12_goesThrough_16 rec x1 x2 SM)
    else
      (some SM))
def f12_goesThrough : Nat → Int32 → Int32 → Ob → Option (Ob)
  | 0, _, _, _ => none
  | dp + 1, x1, x2, SM => f12_goesThrough_b (f12_goesThrough dp) x1 x2 SM
/-! 24.m14.lean.txt -/
def f12_beds_49 (z0 : Int32) (SM : Ob) : Option (Int32 × Ob) :=
  some (z0, SM)
def f12_beds_21 (x1 : Int32) (SM : Ob) : Option (Int32 × Ob) :=
  lt (oI SM 37 (-1) : Ob) fun SM_1 =>
  bd (f12_goesThrough DP 0 0 SM_1) fun r_2 =>
  if 0 ≤ x1 then
    (ck (inb x1 8) <|
    f12_beds_49 (r_2.2.2.1 36 (Int32.toNatClampNeg x1)) r_2)
  else
    (f12_beds_49 (r_2.1 37) r_2)
def f12_beds (x1 : Int32) (SM : Ob) : Option (Int32 × Ob) :=
  lt (oI SM 0 0 : Ob) fun SM_1 =>
  if x1 = (-1) then
    (f12_beds_21 x1 SM_1)
  else
    (bd (f12_isGuest x1 SM_1) fun r_3 =>
    if r_3 = 0 then
      (some ((-2), SM_1))
    else
      (f12_beds_21 x1 SM_1))
def f12_isWatched_83 (k6 : Int32 → Int32 → Int32 → Int32 → Int32 → Ob → Option (Int32)) (k21 : Int32 → Int32 → Int32 → Int32 → Int32 → Int32 → Int32 → Ob → Option (Int32)) (x1 : Int32) (x2 : Int32) (x3 : Int32) (x4 : Int32) (x5 : Int32) (x7 : Int32) (z0 : Int32) (z1 : Int32) (SM : Ob) : Option (Int32) :=
  lt (z0 + z1 : Int32) fun x6_1 =>
  lt (x7 + 1 : Int32) fun x7_2 =>
  k21 x1 x2 x3 x4 x5 x6_1 x7_2 SM
def f12_isWatched_82 (k6 : Int32 → Int32 → Int32 → Int32 → Int32 → Ob → Option (Int32)) (k21 : Int32 → Int32 → Int32 → Int32 → Int32 → Int32 → Int32 → Ob → Option (Int32)) (x1 : Int32) (x2 : Int32) (x3 : Int32) (x4 : Int32) (x5 : Int32) (x7 : Int32) (z0 : Int32) (SM : Ob) : Option (Int32) :=
  f12_isWatched_83 k6 k21 x1 x2 x3 x4 x5 x7 z0 0 SM
def f12_isWatched_108 (k6 : Int32 → Int32 → Int32 → Int32 → Int32 → Ob → Option (Int32)) (x1 : Int32) (x2 : Int32) (x3 : Int32) (x5 : Int32) (z0 : Int32) (SM : Ob) : Option (Int32) :=
  lt (x5 + 1 : Int32) fun x5_1 =>
  k6 x1 x2 x3 z0 x5_1 SM
def f12_isWatched_107 (k6 : Int32 → Int32 → Int32 → Int32 → Int32 → Ob → Option (Int32)) (x1 : Int32) (x2 : Int32) (x3 : Int32) (x5 : Int32) (SM : Ob) : Option (Int32) :=
  f12_isWatched_108 k6 x1 x2 x3 x5 0 SM
def f12_isWatched_21 (k6 : Int32 → Int32 → Int32 → Int32 → Int32 → Ob → Option (Int32)) : Nat → Int32 → Int32 → Int32 → Int32 → Int32 → Int32 → Int32 → Ob → Option (Int32)
  | 0, _, _, _, _, _, _, _, _ => none
  | n + 1, x1, x2, x3, x4, x5, x6, x7, SM => bd (f12_guests SM) fun r_1 =>
  if r_1 ≤ x7 then
    (if x4 = 0 then
      (f12_isWatched_107 k6 x1 x2 x3 x5 SM)
    else
      (if x6 < x2 then
        (f12_isWatched_107 k6 x1 x2 x3 x5 SM)
      else
        (f12_isWatched_108 k6 x1 x2 x3 x5 1 SM)))
  else
    (bd (f12_guestOf x7 1 SM) fun r_6 =>
    bd (f12_guestOf x5 1 SM) fun r_8 =>
    lt (r_6 - r_8 : Int32) fun x8_10 =>
    if x7 = x5 then
      (f12_isWatched_82 k6 (f12_isWatched_21 k6 n) x1 x2 x3 x4 x5 x7 x6 SM)
    else
      (bd (f12_isIn x1 x7) fun r_12 =>
      if r_12 = 0 then
        (f12_isWatched_82 k6 (f12_isWatched_21 k6 n) x1 x2 x3 x4 x5 x7 x6 SM)
      else
        (if x3 < x8_10 then
          (f12_isWatched_82 k6 (f12_isWatched_21 k6 n) x1 x2 x3 x4 x5 x7 x6 SM)
        else
          (if x3 < (-x8_10) then
            (f12_isWatched_82 k6 (f12_isWatched_21 k6 n) x1 x2 x3 x4 x5 x7 x6 SM)
          else
            (f12_isWatched_83 k6 (f12_isWatched_21 k6 n) x1 x2 x3 x4 x5 x7 x6 1 SM)))))
def f12_isWatched_6 : Nat → Int32 → Int32 → Int32 → Int32 → Int32 → Ob → Option (Int32)
  | 0, _, _, _, _, _, _ => none
  | n + 1, x1, x2, x3, x4, x5, SM => bd (f12_guests SM) fun r_1 =>
  if r_1 ≤ x5 then
    (ck (isz x4) (some x4))
  else
    (f12_isWatched_21 (f12_isWatched_6 n) FU x1 x2 x3 x4 x5 0 0 SM)
def f12_isWatched (x1 : Int32) (x2 : Int32) (x3 : Int32) (SM : Ob) : Option (Int32) :=
  f12_isWatched_6 FU x1 x2 x3 1 0 SM
def f12_watch_73 (k10 : Int32 → Int32 → Int32 → Int32 → Ob → Option (Int32 × Ob)) (x1 : Int32) (x2 : Int32) (x4 : Int32) (z0 : Int32) (SM : Ob) : Option (Int32 × Ob) :=
  lt (x4 + 1 : Int32) fun x4_1 =>
  k10 x1 x2 z0 x4_1 SM
def f12_watch_72 (k10 : Int32 → Int32 → Int32 → Int32 → Ob → Option (Int32 × Ob)) (x1 : Int32) (x2 : Int32) (x3 : Int32) (x4 : Int32) (SM : Ob) : Option (Int32 × Ob) :=
  f12_watch_73 k10 x1 x2 x4 x3 SM
def f12_watch_56 (k10 : Int32 → Int32 → Int32 → Int32 → Ob → Option (Int32 × Ob)) (x1 : Int32) (x2 : Int32) (x3 : Int32) (x4 : Int32) (SM : Ob) : Option (Int32 × Ob) :=
  bd (f12_isWatched x4 x1 x2 SM) fun r_1 =>
  if r_1 = 0 then
    (f12_watch_72 k10 x1 x2 x3 x4 SM)
  else
    (f12_watch_73 k10 x1 x2 x4 x4 SM)
def f12_watch_80 (x3 : Int32) (SM : Ob) : Option (Int32 × Ob) :=
  some (x3, SM)
def f12_watch_10 : Nat → Int32 → Int32 → Int32 → Int32 → Ob → Option (Int32 × Ob)
  | 0, _, _, _, _, _ => none
  | n + 1, x1, x2, x3, x4, SM => bd (f12_guests SM) fun r_1 =>
  if (1 <<< (r_1 &&& 31)) ≤ x4 then
    (f12_watch_80 x3 SM)
  else
    (bd (f12_within x1 1 2) fun r_4 =>
    if r_4 = 0 then
      (f12_watch_80 x3 SM)
    else
      (bd (f12_within x2 0 11) fun r_7 =>
      if r_7 = 0 then
        (f12_watch_80 x3 SM)
      else
        (if x3 < 0 then
          (f12_watch_56 (f12_watch_10 n) x1 x2 x3 x4 SM)
        else
          (bd (f12_bits x4) fun r_11 =>
          bd (f12_bits x3) fun r_13 =>
          if r_13 ≤ r_11 then
            (f12_watch_72 (f12_watch_10 n) x1 x2 x3 x4 SM)
          else
            (f12_watch_56 (f12_watch_10 n) x1 x2 x3 x4 SM)))))
def f12_watch (x1 : Int32) (x2 : Int32) (SM : Ob) : Option (Int32 × Ob) :=
  lt (oI SM 0 0 : Ob) fun SM_1 =>
  f12_watch_10 FU x1 x2 (-1) 0 SM_1
def f12_draw (x1 : Int32) (SM : Ob) : Option (Int32 × Ob) :=
  ck (nzl 2147483648) <|
  lt (oL SM 38 ((((SM.2.1 38) * 1103515245) + 12345) - (((SM.2.1 38) * 1103515245) + 12345) / 2147483648 * 2147483648) : Ob) fun SM_2 =>
  ck (nzl 65536) <|
  ck (nzl (Int32.toInt64 x1)) <|
  some (Int64.toInt32 (((SM_2.2.1 38) / 65536) - ((SM_2.2.1 38) / 65536) / (Int32.toInt64 x1) * (Int32.toInt64 x1)), SM_2)
def f12_drawsOne_35 : Nat → Int32 → Int32 → Ob → Option (Int32 × Ob)
  | 0, _, _, _ => none
  | n + 1, x2, x3, SM => bd (f12_guestOf x3 2 SM) fun r_1 =>
  if x2 < r_1 then
    (some (x3, SM))
  else
    (bd (f12_guestOf x3 2 SM) fun r_4 =>
    lt (x2 - r_4 : Int32) fun x2_6 =>
    lt (x3 + 1 : Int32) fun x3_7 =>
    f12_drawsOne_35 n x2_6 x3_7 SM)
def f12_drawsOne_4 : Nat → Int32 → Int32 → Ob → Option (Int32 × Ob)
  | 0, _, _, _ => none
  | n + 1, x1, x2, SM => bd (f12_guests SM) fun r_1 =>
  if r_1 ≤ x2 then
    (bd (f12_draw x1 SM) fun r_4 =>
    lt (r_4.1 : Int32) fun x2_6 =>
    f12_drawsOne_35 FU x2_6 0 (r_4.2))
  else
    (bd (f12_guestOf x2 2 SM) fun r_7 =>
    lt (x1 + r_7 : Int32) fun x1_9 =>
    lt (x2 + 1 : Int32) fun x2_10 =>
    f12_drawsOne_4 n x1_9 x2_10 SM)
def f12_drawsOne (SM : Ob) : Option (Int32 × Ob) :=
  f12_drawsOne_4 FU 0 0 SM
def f12_likeIn_42 (k5 : Int32 → Int32 → Int32 → Int32 → Ob → Option (Int32)) (x1 : Int32) (x2 : Int32) (x4 : Int32) (z0 : Int32) (z1 : Int32) (SM : Ob) : Option (Int32) :=
  lt (z0 ||| z1 : Int32) fun x3_1 =>
  lt (x4 + 1 : Int32) fun x4_2 =>
  k5 x1 x2 x3_1 x4_2 SM
def f12_likeIn_5 : Nat → Int32 → Int32 → Int32 → Int32 → Ob → Option (Int32)
  | 0, _, _, _, _, _ => none
  | n + 1, x1, x2, x3, x4, SM => bd (f12_worlds SM) fun r_1 =>
  if r_1 ≤ x4 then
    (bd (f12_whoIn x3 SM) fun r_4 =>
    some r_4)
  else
    (ck (inb x4 32) <|
    ck (inb x1 32) <|
    if (((SM.2.2.1 29 (Int32.toNatClampNeg x4)) ^^^ (SM.2.2.1 29 (Int32.toNatClampNeg x1))) &&& x2) = 0 then
      (f12_likeIn_42 (f12_likeIn_5 n) x1 x2 x4 x3 (1 <<< (x4 &&& 31)) SM)
    else
      (f12_likeIn_42 (f12_likeIn_5 n) x1 x2 x4 x3 0 SM))
def f12_likeIn (x1 : Int32) (x2 : Int32) (SM : Ob) : Option (Int32) :=
  f12_likeIn_5 FU x1 x2 0 0 SM
def f12_years_42 (SM : Ob) : Option (Int32 × Ob) :=
  some ((-1), SM)
def f12_years_136 (k62 : Int32 → Int32 → Int32 → Int32 → Int32 → Int32 → Ob → Option (Int32 × Ob)) (x2 : Int32) (x3 : Int32) (x4 : Int32) (x6 : Int32) (x7 : Int32) (x9 : Int32) (z0 : Int32) (z1 : Int32) (SM : Ob) : Option (Int32 × Ob) :=
  lt (z0 + z1 : Int32) fun x5_1 =>
  ck (inb x9 32) <|
  bd (f12_bits (SM.2.2.1 29 (Int32.toNatClampNeg x9))) fun r_3 =>
  lt (x6 + r_3 : Int32) fun x6_5 =>
  lt (x7 + 1 : Int32) fun x7_6 =>
  k62 x2 x3 x4 x5_1 x6_5 x7_6 SM
def f12_years_107 (k62 : Int32 → Int32 → Int32 → Int32 → Int32 → Int32 → Ob → Option (Int32 × Ob)) (x2 : Int32) (x3 : Int32) (x5 : Int32) (x6 : Int32) (x7 : Int32) (x8 : Int32) (x9 : Int32) (z0 : Int32) (z1 : Int32) (SM : Ob) : Option (Int32 × Ob) :=
  lt (z0 + z1 : Int32) fun x4_1 =>
  bd (f12_guestOf x8 3 SM) fun r_2 =>
  bd (f12_likeIn x9 r_2 SM) fun r_4 =>
  bd (f12_alone r_4) fun r_6 =>
  if r_6 < 0 then
    (f12_years_136 k62 x2 x3 x4_1 x6 x7 x9 x5 0 SM)
  else
    (f12_years_136 k62 x2 x3 x4_1 x6 x7 x9 x5 1 SM)
def f12_years_181 (z0 : Int32) (SM : Ob) : Option (Int32 × Ob) :=
  some (z0, SM)
def f12_years_62 : Nat → Int32 → Int32 → Int32 → Int32 → Int32 → Int32 → Ob → Option (Int32 × Ob)
  | 0, _, _, _, _, _, _, _ => none
  | n + 1, x2, x3, x4, x5, x6, x7, SM => if x2 ≤ x7 then
    (if x3 = 0 then
      (f12_years_181 x4 SM)
    else
      (if x3 = 1 then
        (f12_years_181 x5 SM)
      else
        (f12_years_181 x6 SM)))
  else
    (bd (f12_drawsOne SM) fun r_4 =>
    lt (r_4.1 : Int32) fun x8_6 =>
    bd (f12_draw 4 (r_4.2)) fun r_7 =>
    lt ((4 * x8_6) + (r_7.1) : Int32) fun x9_9 =>
    bd (f12_likeIn x9_9 63 (r_7.2)) fun r_10 =>
    bd (f12_alone r_10) fun r_12 =>
    if r_12 < 0 then
      (f12_years_107 (f12_years_62 n) x2 x3 x5 x6 x7 x8_6 x9_9 x4 0 (r_7.2))
    else
      (f12_years_107 (f12_years_62 n) x2 x3 x5 x6 x7 x8_6 x9_9 x4 1 (r_7.2)))
def f12_years (x1 : Int32) (x2 : Int32) (x3 : Int32) (SM : Ob) : Option (Int32 × Ob) :=
  lt (oI SM 0 0 : Ob) fun SM_1 =>
  bd (f12_within x1 0 9999) fun r_2 =>
  if r_2 = 0 then
    (f12_years_42 SM_1)
  else
    (bd (f12_within x2 1 100) fun r_5 =>
    if r_5 = 0 then
      (f12_years_42 SM_1)
    else
      (bd (f12_within x3 0 2) fun r_8 =>
      if r_8 = 0 then
        (f12_years_42 SM_1)
      else
        (bd (f12_guests SM_1) fun r_11 =>
        if r_11 = 0 then
          (f12_years_42 SM_1)
        else
          (lt (oL SM_1 38 (Int32.toInt64 x1) : Ob) fun SM_14 =>
          f12_years_62 FU x2 x3 0 0 0 0 SM_14))))
def f12_mark_27 (SM : Ob) : Option (Int32 × Ob) :=
  some (0, SM)
def f12_mark_83 (z1 : Int32) (SM : Ob) : Option (Int32 × Ob) :=
  lt (oI SM 26 z1 : Ob) fun SM_1 =>
  some (1, SM_1)
def f12_mark_65 (x2 : Int32) (z1 : Int32) (z2 : Int32) (SM : Ob) : Option (Int32 × Ob) :=
  bd (f12_copies z1 z2 30 SM) fun r_1 =>
  if x2 = 0 then
    (f12_mark_83 (r_1.1 26) r_1)
  else
    (f12_mark_83 0 r_1)
def f12_mark_51 (x1 : Int32) (x2 : Int32) (z1 : Int32) (SM : Ob) : Option (Int32 × Ob) :=
  if x2 = 0 then
    (f12_mark_65 x2 z1 (30 * (1 + x1)) SM)
  else
    (f12_mark_65 x2 z1 0 SM)
def f12_mark_29 (x1 : Int32) (x2 : Int32) (SM : Ob) : Option (Int32 × Ob) :=
  ck (inb x1 4) <|
  lt (oA SM 27 (Int32.toNatClampNeg x1) (vp_nar .boolean 1) : Ob) fun SM_2 =>
  if x2 = 0 then
    (f12_mark_51 x1 x2 0 SM_2)
  else
    (f12_mark_51 x1 x2 (30 * (1 + x1)) SM_2)
def f12_mark (x1 : Int32) (x2 : Int32) (SM : Ob) : Option (Int32 × Ob) :=
  lt (oI SM 0 0 : Ob) fun SM_1 =>
  bd (f12_within x1 0 3) fun r_2 =>
  if r_2 = 0 then
    (f12_mark_27 SM_1)
  else
    (if x2 = 0 then
      (f12_mark_29 x1 x2 SM_1)
    else
      (ck (inb x1 4) <|
      if (SM_1.2.2.1 27 (Int32.toNatClampNeg x1)) = 0 then
        (f12_mark_27 SM_1)
      else
        (f12_mark_29 x1 x2 SM_1)))
def f12_count (x1 : Int32) (SM : Ob) : Option (Int32 × Ob) :=
  lt (oI SM 0 0 : Ob) fun SM_1 =>
  if x1 = 0 then
    (bd (f12_guests SM_1) fun r_3 =>
    some (r_3, SM_1))
  else if x1 = 1 then
      (bd (f12_signs SM_1) fun r_6 =>
      some (r_6, SM_1))
    else if x1 = 2 then
        (ck (inb 0 660) <|
        bd (f12_bits (SM_1.2.2.1 25 (Int32.toNatClampNeg 0))) fun r_10 =>
        some (r_10, SM_1))
      else if x1 = 3 then
          (ck (inb 1 660) <|
          some (SM_1.2.2.1 25 (Int32.toNatClampNeg 1), SM_1))
        else if x1 = 4 then
            (ck (inb 0 160) <|
            some (SM_1.2.2.1 22 (Int32.toNatClampNeg 0), SM_1))
          else if x1 = 5 then
              (ck (inb 12 660) <|
              some (SM_1.2.2.1 25 (Int32.toNatClampNeg 12), SM_1))
            else if x1 = 6 then
                (some (SM_1.1 26, SM_1))
              else if x1 = 7 then
                  (some (SM_1.1 2, SM_1))
                else 
    (some ((-1), SM_1))
/-! 74b.newm.lean.txt -/
def wk12_1 : Nat → Int64 := vp_updL (fun _ => 0) (Int32.toNatClampNeg 0) 14190408
def wk12_2 : Nat → Int64 := vp_updL wk12_1 (Int32.toNatClampNeg 1) 932857
def wk12_3 : Nat → Int64 := vp_updL wk12_2 (Int32.toNatClampNeg 2) 36624432
def wk12_4 : Nat → Int64 := vp_updL wk12_3 (Int32.toNatClampNeg 3) 975001
def wk12_5 : Nat → Int64 := vp_updL wk12_4 (Int32.toNatClampNeg 4) 278592
def wk12_6 : Nat → Int64 := vp_updL wk12_5 (Int32.toNatClampNeg 5) 1176170
def wk12_7 : Nat → Int64 := vp_updL wk12_6 (Int32.toNatClampNeg 6) 969456
def wk12_8 : Nat → Int64 := vp_updL wk12_7 (Int32.toNatClampNeg 7) 974150
def wk12_9 : Nat → Int64 := vp_updL wk12_8 (Int32.toNatClampNeg 8) 114083
def wk12_10 : Nat → Int64 := vp_updL wk12_9 (Int32.toNatClampNeg 9) 964720
def wk12_11 : Nat → Int64 := vp_updL wk12_10 (Int32.toNatClampNeg 10) 36035688
def wk12_12 : Nat → Int64 := vp_updL wk12_11 (Int32.toNatClampNeg 11) 15454845
def wk12_13 : Nat → Int64 := vp_updL wk12_12 (Int32.toNatClampNeg 12) 59361325568
def wk12_14 : Nat → Int64 := vp_updL wk12_13 (Int32.toNatClampNeg 13) 26704030
def wk12_15 : Nat → Int64 := vp_updL wk12_14 (Int32.toNatClampNeg 14) 30596128
def wk12_16 : Nat → Int64 := vp_updL wk12_15 (Int32.toNatClampNeg 15) 583580781
def wk12_17 : Nat → Int64 := vp_updL wk12_16 (Int32.toNatClampNeg 16) 620212
def wk12_18 : Nat → Int64 := vp_updL wk12_17 (Int32.toNatClampNeg 17) 17838
def wk12_19 : Nat → Int64 := vp_updL wk12_18 (Int32.toNatClampNeg 18) 6237219
def wk12_20 : Nat → Int64 := vp_updL wk12_19 (Int32.toNatClampNeg 19) 982151
def wk12_21 : Nat → Int64 := vp_updL wk12_20 (Int32.toNatClampNeg 20) 8776
def wk12_22 : Nat → Int64 := vp_updL wk12_21 (Int32.toNatClampNeg 21) 1177862
def wk12_23 : Nat → Int64 := vp_updL wk12_22 (Int32.toNatClampNeg 22) 20687
def wk12_24 : Nat → Int64 := vp_updL wk12_23 (Int32.toNatClampNeg 23) 17006
def wk12_25 : Nat → Int64 := vp_updL wk12_24 (Int32.toNatClampNeg 24) 2503055
def wk12_26 : Nat → Int64 := vp_updL wk12_25 (Int32.toNatClampNeg 25) 20983
def wk12_27 : Nat → Int64 := vp_updL wk12_26 (Int32.toNatClampNeg 26) 19741
def wk12_28 : Nat → Int64 := vp_updL wk12_27 (Int32.toNatClampNeg 27) 1891
def wk12_29 : Nat → Int64 := vp_updL wk12_28 (Int32.toNatClampNeg 28) 573
def wk12_30 : Nat → Int64 := vp_updL wk12_29 (Int32.toNatClampNeg 29) 223720
def wk12_31 : Nat → Int64 := vp_updL wk12_30 (Int32.toNatClampNeg 30) 988049129
def wk12_32 : Nat → Int64 := vp_updL wk12_31 (Int32.toNatClampNeg 31) 660401
def S12 : Ob := (fun _ => 0, fun _ => 0, fun _ _ => 0, fun k => if k = 9 then wk12_32 else fun _ => 0)
