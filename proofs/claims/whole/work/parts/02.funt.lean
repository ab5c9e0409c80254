/-! laid by program (split.py): functions of the methods -/
/-! 41.tape.lean.txt -/
def f10_put_82 (k3 : Int64 → Int32 → Ob → Option (Ob)) (x1 : Int64) (x3 : Int32) (ST : Ob) : Option (Ob) :=
  lt (x3 + (-8) : Int32) fun x3_1 =>
  k3 x1 x3_1 ST
def f10_put_43 (k3 : Int64 → Int32 → Ob → Option (Ob)) (x1 : Int64) (x3 : Int32) (x4 : Int32) (z0 : Int32) (ST : Ob) : Option (Ob) :=
  if z0 = 0 then
    (f10_put_82 k3 x1 x3 ST)
  else
    (if 1000 ≤ (ST.1 2) then
      (f10_put_82 k3 x1 x3 ST)
    else
      (ck (inb (ST.1 2) 1000) <|
      lt (oA ST 0 (Int32.toNatClampNeg (ST.1 2)) (vp_nar .byte ((Int32.toInt8 x4).toInt32)) : Ob) fun ST_4 =>
      lt (oI ST_4 2 ((ST_4.1 2) + 1) : Ob) fun ST_5 =>
      f10_put_82 k3 x1 x3 ST_5))
def f10_put_38 (k3 : Int64 → Int32 → Ob → Option (Ob)) (x1 : Int64) (x3 : Int32) (x4 : Int32) (ST : Ob) : Option (Ob) :=
  f10_put_43 k3 x1 x3 x4 1 ST
def f10_put_42 (k3 : Int64 → Int32 → Ob → Option (Ob)) (x1 : Int64) (x3 : Int32) (x4 : Int32) (ST : Ob) : Option (Ob) :=
  f10_put_43 k3 x1 x3 x4 0 ST
def f10_put_3 : Nat → Int64 → Int32 → Ob → Option (Ob)
  | 0, _, _, _ => none
  | n + 1, x1, x3, ST => if x3 < 0 then
    (some ST)
  else
    (lt (Int64.toInt32 ((lush x1 x3) &&& 255) : Int32) fun x4_2 =>
    if x4_2 = 10 then
      (f10_put_38 (f10_put_3 n) x1 x3 x4_2 ST)
    else
      (if x4_2 < 32 then
        (f10_put_42 (f10_put_3 n) x1 x3 x4_2 ST)
      else
        (if 126 < x4_2 then
          (f10_put_42 (f10_put_3 n) x1 x3 x4_2 ST)
        else
          (f10_put_38 (f10_put_3 n) x1 x3 x4_2 ST))))
def f10_put (x1 : Int64) (ST : Ob) : Option (Ob) :=
  f10_put_3 FU x1 56 ST
def f10_readWord_140 (k106 : Int32 → Ob → Option (Ob)) (x1 : Int32) (ST : Ob) : Option (Ob) :=
  lt (x1 + 1 : Int32) fun x1_1 =>
  k106 x1_1 ST
def f10_readWord_146 (ST : Ob) : Option (Ob) :=
  some ST
def f10_readWord_106 : Nat → Int32 → Ob → Option (Ob)
  | 0, _, _ => none
  | n + 1, x1, ST => if 32 ≤ x1 then
    (f10_readWord_146 ST)
  else
    (if (ST.1 3) = 32 then
      (ck (inb x1 32) <|
      if (lg_cmp (ST.2.2.2 1 (Int32.toNatClampNeg x1)) (ST.2.1 6)) = 0 then
        (lt (oI ST 3 x1 : Ob) fun ST_5 =>
        f10_readWord_140 (f10_readWord_106 n) x1 ST_5)
      else
        (f10_readWord_140 (f10_readWord_106 n) x1 ST))
    else
      (f10_readWord_146 ST))
def f10_readWord_101 (z1 : Int32) (ST : Ob) : Option (Ob) :=
  lt (oI ST 3 z1 : Ob) fun ST_1 =>
  f10_readWord_106 FU 0 ST_1
def f10_readWord_79 (ST : Ob) : Option (Ob) :=
  if ((ST.1 5) - (ST.1 4)) ≤ 8 then
    (f10_readWord_101 32 ST)
  else
    (f10_readWord_101 35 ST)
def f10_readWord_5 : Nat → Ob → Option (Ob)
  | 0, _ => none
  | n + 1, ST => if (ST.1 2) ≤ (ST.1 5) then
    (f10_readWord_79 ST)
  else
    (ck (inb (ST.1 5) 1000) <|
    if (ST.2.2.1 0 (Int32.toNatClampNeg (ST.1 5))) < 97 then
      (f10_readWord_79 ST)
    else
      (ck (inb (ST.1 5) 1000) <|
      if 122 < (ST.2.2.1 0 (Int32.toNatClampNeg (ST.1 5))) then
        (f10_readWord_79 ST)
      else
        (ck (inb (ST.1 5) 1000) <|
        lt (oL ST 6 (((ST.2.1 6) <<< (Int32.toInt64 8 &&& 63)) ||| (Int32.toInt64 (ST.2.2.1 0 (Int32.toNatClampNeg (ST.1 5))))) : Ob) fun ST_7 =>
        lt (oI ST_7 5 ((ST_7.1 5) + 1) : Ob) fun ST_8 =>
        f10_readWord_5 n ST_8)))
def f10_readWord (ST : Ob) : Option (Ob) :=
  lt (oL ST 6 0 : Ob) fun ST_1 =>
  f10_readWord_5 FU ST_1
def f10_readNumber_102 (z1 : Int32) (ST : Ob) : Option (Ob) :=
  lt (oI ST 3 z1 : Ob) fun ST_1 =>
  some ST_1
def f10_readNumber_81 (ST : Ob) : Option (Ob) :=
  if ((ST.1 5) - (ST.1 4)) ≤ 4 then
    (f10_readNumber_102 33 ST)
  else
    (f10_readNumber_102 35 ST)
def f10_readNumber_5 : Nat → Ob → Option (Ob)
  | 0, _ => none
  | n + 1, ST => if (ST.1 2) ≤ (ST.1 5) then
    (f10_readNumber_81 ST)
  else
    (ck (inb (ST.1 5) 1000) <|
    if (ST.2.2.1 0 (Int32.toNatClampNeg (ST.1 5))) < 48 then
      (f10_readNumber_81 ST)
    else
      (ck (inb (ST.1 5) 1000) <|
      if 57 < (ST.2.2.1 0 (Int32.toNatClampNeg (ST.1 5))) then
        (f10_readNumber_81 ST)
      else
        (ck (inb (ST.1 5) 1000) <|
        lt (oI ST 7 ((((ST.1 7) * 10) + (ST.2.2.1 0 (Int32.toNatClampNeg (ST.1 5)))) - 48) : Ob) fun ST_7 =>
        lt (oI ST_7 5 ((ST_7.1 5) + 1) : Ob) fun ST_8 =>
        f10_readNumber_5 n ST_8)))
def f10_readNumber (ST : Ob) : Option (Ob) :=
  lt (oI ST 7 0 : Ob) fun ST_1 =>
  f10_readNumber_5 FU ST_1
def f10_advance_35 (k5 : Int32 → Ob → Option (Ob)) (x1 : Int32) (ST : Ob) : Option (Ob) :=
  lt (x1 + 1 : Int32) fun x1_1 =>
  k5 x1_1 ST
def f10_advance_163 (ST : Ob) : Option (Ob) :=
  some ST
def f10_advance_160 (z1 : Int32) (ST : Ob) : Option (Ob) :=
  lt (oI ST 3 z1 : Ob) fun ST_1 =>
  f10_advance_163 ST_1
def f10_advance_126 (x1 : Int32) (ST : Ob) : Option (Ob) :=
  lt (oI ST 5 (x1 + 1) : Ob) fun ST_1 =>
  ck (inb x1 1000) <|
  bd (fj0_indexOf_0f7a4 (((Int32.toUInt32 (ST_1.2.2.1 0 (Int32.toNatClampNeg x1))) % 65536).toInt32)) fun r_3 =>
  if 0 ≤ r_3 then
    (ck (inb x1 1000) <|
    f10_advance_160 (ST_1.2.2.1 0 (Int32.toNatClampNeg x1)) ST_1)
  else
    (f10_advance_160 35 ST_1)
def f10_advance_97 (x1 : Int32) (ST : Ob) : Option (Ob) :=
  ck (inb x1 1000) <|
  if (ST.2.2.1 0 (Int32.toNatClampNeg x1)) < 48 then
    (f10_advance_126 x1 ST)
  else
    (ck (inb x1 1000) <|
    if 57 < (ST.2.2.1 0 (Int32.toNatClampNeg x1)) then
      (f10_advance_126 x1 ST)
    else
      (bd (f10_readNumber ST) fun r_5 =>
      f10_advance_163 r_5))
def f10_advance_41 (x1 : Int32) (ST : Ob) : Option (Ob) :=
  lt (oI ST 4 x1 : Ob) fun ST_1 =>
  lt (oI ST_1 5 x1 : Ob) fun ST_2 =>
  if x1 < (ST_2.1 2) then
    (ck (inb x1 1000) <|
    if (ST_2.2.2.1 0 (Int32.toNatClampNeg x1)) < 97 then
      (f10_advance_97 x1 ST_2)
    else
      (ck (inb x1 1000) <|
      if 122 < (ST_2.2.2.1 0 (Int32.toNatClampNeg x1)) then
        (f10_advance_97 x1 ST_2)
      else
        (bd (f10_readWord ST_2) fun r_8 =>
        f10_advance_163 r_8)))
  else
    (lt (oI ST_2 3 34 : Ob) fun ST_10 =>
    f10_advance_163 ST_10)
def f10_advance_5 : Nat → Int32 → Ob → Option (Ob)
  | 0, _, _ => none
  | n + 1, x1, ST => if (ST.1 2) ≤ x1 then
    (f10_advance_41 x1 ST)
  else
    (ck (inb x1 1000) <|
    if (ST.2.2.1 0 (Int32.toNatClampNeg x1)) = 10 then
      (f10_advance_35 (f10_advance_5 n) x1 ST)
    else
      (ck (inb x1 1000) <|
      if (ST.2.2.1 0 (Int32.toNatClampNeg x1)) = 32 then
        (f10_advance_35 (f10_advance_5 n) x1 ST)
      else
        (f10_advance_41 x1 ST)))
def f10_advance (ST : Ob) : Option (Ob) :=
  lt (ST.1 5 : Int32) fun x1_1 =>
  f10_advance_5 FU x1_1 ST
def f10_begin (ST : Ob) : Option (Ob) :=
  lt (oI ST 5 0 : Ob) fun ST_1 =>
  bd (f10_advance ST_1) fun r_2 =>
  some r_2
def f10_isName_23 (z0 : Int32) (ST : Ob) : Option (Int32) :=
  ck (isz z0) (some z0)
def f10_isName_22 (ST : Ob) : Option (Int32) :=
  f10_isName_23 0 ST
def f10_isName (ST : Ob) : Option (Int32) :=
  if (ST.1 3) < 29 then
    (f10_isName_22 ST)
  else
    (if 32 < (ST.1 3) then
      (f10_isName_22 ST)
    else
      (f10_isName_23 1 ST))
/-! 42.gram.lean.txt -/
def f3_begin (SG : Ob) (ST : Ob) (SC : Ob) : Option (Ob × Ob × Ob) :=
  lt (oI SG 3 0 : Ob) fun SG_1 =>
  lt (oI SC 3 0 : Ob) fun SC_2 =>
  bd (f10_begin ST) fun r_3 =>
  some (SG_1, r_3, SC_2)
def f3_fail (x1 : Int32) (SG : Ob) (ST : Ob) : Option (Int32 × Ob) :=
  lt (oI SG 3 (x1 + (16 * (ST.1 4))) : Ob) fun SG_1 =>
  some (0, SG_1)
def f3_take (x1 : Int32) (SG : Ob) (ST : Ob) : Option (Int32 × Ob × Ob) :=
  if (ST.1 3) = x1 then
    (bd (f10_advance ST) fun r_2 =>
    some (1, SG, r_2))
  else
    (bd (f3_fail 1 SG ST) fun r_4 =>
    ck (isz (r_4.1)) (some (r_4.1, r_4.2, ST)))
def f3_named_29 (x1 : Int32) (SG : Ob) (ST : Ob) : Option (Int32 × Ob) :=
  some (x1, SG)
def f3_named (x1 : Int32) (SG : Ob) (ST : Ob) : Option (Int32 × Ob) :=
  bd (f10_isName ST) fun r_1 =>
  if r_1 = 0 then
    (bd (f3_fail 1 SG ST) fun r_7 =>
    some ((-1), r_7.2))
  else
    (if x1 = (-1) then
      (bd (f3_fail 2 SG ST) fun r_5 =>
      f3_named_29 x1 (r_5.2) ST)
    else
      (f3_named_29 x1 SG ST))
def f3_namedGuest (SG : Ob) (ST : Ob) (SI : Ob) : Option (Int32 × Ob) :=
  bd (f4_guestNamed (ST.2.1 6) SI) fun r_1 =>
  bd (f3_named r_1 SG ST) fun r_3 =>
  some (r_3.1, r_3.2)
def f3_namedSign (SG : Ob) (ST : Ob) (SI : Ob) : Option (Int32 × Ob) :=
  bd (f4_signNamed (ST.2.1 6) SI) fun r_1 =>
  bd (f3_named r_1 SG ST) fun r_3 =>
  some (r_3.1, r_3.2)
/-! 43.gramf.lean.txt -/
def f3_term_60 (rec : Int32 → Ob → Ob → Ob → Ob → Option (Int32 × Ob × Ob × Ob)) (x2 : Int32) (SG : Ob) (ST : Ob) (SC : Ob) (SI : Ob) : Option (Int32 × Ob × Ob × Ob) :=
  ck (isz x2) (some (x2, SG, ST, SC))
def f3_term_8 (rec : Int32 → Ob → Ob → Ob → Ob → Option (Int32 × Ob × Ob × Ob)) : Nat → Int32 → Int32 → Int32 → Ob → Ob → Ob → Ob → Option (Int32 × Ob × Ob × Ob)
  | 0, _, _, _, _, _, _, _ => none
  | n + 1, x1, x2, x3, SG, ST, SC, SI => if 1000 ≤ x3 then
    (f3_term_60 rec x2 SG ST SC SI)
  else
    (if x2 = 0 then
      (f3_term_60 rec x2 SG ST SC SI)
    else
      (if (ST.1 3) = 27 then
        (bd (f10_advance ST) fun r_4 =>
        bd (rec x1 SG r_4 SC SI) fun r_6 =>
        lt (r_6.1 : Int32) fun x2_8 =>
        bd (f2_put 27 0 (r_6.2.2.2)) fun r_9 =>
        lt (x3 + 1 : Int32) fun x3_11 =>
        f3_term_8 rec n x1 x2_8 x3_11 (r_6.2.1) (r_6.2.2.1) r_9 SI)
      else
        (f3_term_60 rec x2 SG ST SC SI)))
def f3_term (rec : Int32 → Ob → Ob → Ob → Ob → Option (Int32 × Ob × Ob × Ob)) (x1 : Int32) (SG : Ob) (ST : Ob) (SC : Ob) (SI : Ob) : Option (Int32 × Ob × Ob × Ob) :=
  bd (rec x1 SG ST SC SI) fun r_1 =>
  lt (r_1.1 : Int32) fun x2_3 =>
  f3_term_8 rec FU x1 x2_3 0 (r_1.2.1) (r_1.2.2.1) (r_1.2.2.2) SI
def f3_formula_60 (rec : Int32 → Ob → Ob → Ob → Ob → Option (Int32 × Ob × Ob × Ob)) (x2 : Int32) (SG : Ob) (ST : Ob) (SC : Ob) (SI : Ob) : Option (Int32 × Ob × Ob × Ob) :=
  ck (isz x2) (some (x2, SG, ST, SC))
def f3_formula_8 (rec : Int32 → Ob → Ob → Ob → Ob → Option (Int32 × Ob × Ob × Ob)) : Nat → Int32 → Int32 → Int32 → Ob → Ob → Ob → Ob → Option (Int32 × Ob × Ob × Ob)
  | 0, _, _, _, _, _, _, _ => none
  | n + 1, x1, x2, x3, SG, ST, SC, SI => if 1000 ≤ x3 then
    (f3_formula_60 rec x2 SG ST SC SI)
  else
    (if x2 = 0 then
      (f3_formula_60 rec x2 SG ST SC SI)
    else
      (if (ST.1 3) = 28 then
        (bd (f10_advance ST) fun r_4 =>
        bd (f3_term rec x1 SG r_4 SC SI) fun r_6 =>
        lt (r_6.1 : Int32) fun x2_8 =>
        bd (f2_put 28 0 (r_6.2.2.2)) fun r_9 =>
        lt (x3 + 1 : Int32) fun x3_11 =>
        f3_formula_8 rec n x1 x2_8 x3_11 (r_6.2.1) (r_6.2.2.1) r_9 SI)
      else
        (f3_formula_60 rec x2 SG ST SC SI)))
def f3_formula (rec : Int32 → Ob → Ob → Ob → Ob → Option (Int32 × Ob × Ob × Ob)) (x1 : Int32) (SG : Ob) (ST : Ob) (SC : Ob) (SI : Ob) : Option (Int32 × Ob × Ob × Ob) :=
  bd (f3_term rec x1 SG ST SC SI) fun r_1 =>
  lt (r_1.1 : Int32) fun x2_3 =>
  f3_formula_8 rec FU x1 x2_3 0 (r_1.2.1) (r_1.2.2.1) (r_1.2.2.2) SI
def f3_item_192 (rec : Int32 → Ob → Ob → Ob → Ob → Option (Int32 × Ob × Ob × Ob)) (z0 : Int32) (SG : Ob) (ST : Ob) (SC : Ob) (SI : Ob) : Option (Int32 × Ob × Ob × Ob) :=
  ck (isz z0) (some (z0, SG, ST, SC))
def f3_item_191 (rec : Int32 → Ob → Ob → Ob → Ob → Option (Int32 × Ob × Ob × Ob)) (SG : Ob) (ST : Ob) (SC : Ob) (SI : Ob) : Option (Int32 × Ob × Ob × Ob) :=
  f3_item_192 rec 0 SG ST SC SI
def f3_item_238 (rec : Int32 → Ob → Ob → Ob → Ob → Option (Int32 × Ob × Ob × Ob)) (SG : Ob) (ST : Ob) (SC : Ob) (SI : Ob) : Option (Int32 × Ob × Ob × Ob) :=
  some (1, SG, ST, SC)
def f3_item_116 (rec : Int32 → Ob → Ob → Ob → Ob → Option (Int32 × Ob × Ob × Ob)) (x1 : Int32) (x2 : Int32) (x3 : Int32) (x5 : Int32) (x6 : Int32) (SG : Ob) (ST : Ob) (SC : Ob) (SI : Ob) : Option (Int32 × Ob × Ob × Ob) :=
  if x1 < 5 then
    (bd (f10_advance ST) fun r_2 =>
    if x2 = 26 then
      (bd (rec (x1 + 1) SG r_2 SC SI) fun r_20 =>
      lt (r_20.1 : Int32) fun x7_22 =>
      bd (f2_put 26 0 (r_20.2.2.2)) fun r_23 =>
      ck (isz x7_22) (some (x7_22, r_20.2.1, r_20.2.2.1, r_23)))
    else
      (if x2 = 40 then
        (bd (f3_formula rec (x1 + 1) SG r_2 SC SI) fun r_14 =>
        if (r_14.1) = 0 then
          (f3_item_191 rec (r_14.2.1) (r_14.2.2.1) (r_14.2.2.2) SI)
        else
          (bd (f3_take 41 (r_14.2.1) (r_14.2.2.1)) fun r_17 =>
          if (r_17.1) = 0 then
            (f3_item_191 rec (r_17.2.1) (r_17.2.2) (r_14.2.2.2) SI)
          else
            (f3_item_192 rec 1 (r_17.2.1) (r_17.2.2) (r_14.2.2.2) SI)))
      else
        (if x3 = 0 then
          (bd (f2_put x2 0 SC) fun r_12 =>
          f3_item_238 rec SG r_2 r_12 SI)
        else
          (if x5 = (-1) then
            (bd (f2_put 3 x6 SC) fun r_8 =>
            f3_item_238 rec SG r_2 r_8 SI)
          else
            (bd (f2_put 0 x5 SC) fun r_10 =>
            f3_item_238 rec SG r_2 r_10 SI)))))
  else
    (bd (f3_fail 5 SG ST) fun r_25 =>
    ck (isz (r_25.1)) (some (r_25.1, r_25.2, ST, SC)))
def f3_item_62 (rec : Int32 → Ob → Ob → Ob → Ob → Option (Int32 × Ob × Ob × Ob)) (x1 : Int32) (x2 : Int32) (x3 : Int32) (SG : Ob) (ST : Ob) (SC : Ob) (SI : Ob) : Option (Int32 × Ob × Ob × Ob) :=
  bd (f4_guestNamed (ST.2.1 6) SI) fun r_1 =>
  bd (f4_signNamed (ST.2.1 6) SI) fun r_3 =>
  if x3 = 0 then
    (f3_item_116 rec x1 x2 x3 r_1 r_3 SG ST SC SI)
  else
    (if r_1 = (-1) then
      (if r_3 = (-1) then
        (bd (f3_fail 2 SG ST) fun r_8 =>
        ck (isz (r_8.1)) (some (r_8.1, r_8.2, ST, SC)))
      else
        (f3_item_116 rec x1 x2 x3 r_1 r_3 SG ST SC SI))
    else
      (f3_item_116 rec x1 x2 x3 r_1 r_3 SG ST SC SI))
def f3_item_33 (rec : Int32 → Ob → Ob → Ob → Ob → Option (Int32 × Ob × Ob × Ob)) (x1 : Int32) (x2 : Int32) (x3 : Int32) (z0 : Int32) (SG : Ob) (ST : Ob) (SC : Ob) (SI : Ob) : Option (Int32 × Ob × Ob × Ob) :=
  if x3 = 0 then
    (if z0 = 0 then
      (if x2 = 26 then
        (f3_item_62 rec x1 x2 x3 SG ST SC SI)
      else
        (if x2 = 40 then
          (f3_item_62 rec x1 x2 x3 SG ST SC SI)
        else
          (bd (f3_fail 1 SG ST) fun r_5 =>
          ck (isz (r_5.1)) (some (r_5.1, r_5.2, ST, SC)))))
    else
      (f3_item_62 rec x1 x2 x3 SG ST SC SI))
  else
    (f3_item_62 rec x1 x2 x3 SG ST SC SI)
def f3_item_32 (rec : Int32 → Ob → Ob → Ob → Ob → Option (Int32 × Ob × Ob × Ob)) (x1 : Int32) (x2 : Int32) (x3 : Int32) (SG : Ob) (ST : Ob) (SC : Ob) (SI : Ob) : Option (Int32 × Ob × Ob × Ob) :=
  f3_item_33 rec x1 x2 x3 0 SG ST SC SI
def f3_item_b (rec : Int32 → Ob → Ob → Ob → Ob → Option (Int32 × Ob × Ob × Ob)) (x1 : Int32) (SG : Ob) (ST : Ob) (SC : Ob) (SI : Ob) : Option (Int32 × Ob × Ob × Ob) :=
  lt (ST.1 3 : Int32) fun x2_1 =>
  bd (f10_isName ST) fun r_2 =>
  if x2_1 < 18 then
    (f3_item_32 rec x1 x2_1 r_2 SG ST SC SI)
  else
    (if 25 < x2_1 then
      (f3_item_32 rec x1 x2_1 r_2 SG ST SC SI)
    else
      (f3_item_33 rec x1 x2_1 r_2 1 SG ST SC SI))
def f3_item : Nat → Int32 → Ob → Ob → Ob → Ob → Option (Int32 × Ob × Ob × Ob)
  | 0, _, _, _, _, _ => none
  | dp + 1, x1, SG, ST, SC, SI => f3_item_b (f3_item dp) x1 SG ST SC SI
/-! 44.grame.lean.txt -/
def f3_product_60 (rec : Int32 → Ob → Ob → Ob → Option (Int32 × Ob × Ob × Ob)) (x2 : Int32) (SG : Ob) (ST : Ob) (SC : Ob) : Option (Int32 × Ob × Ob × Ob) :=
  ck (isz x2) (some (x2, SG, ST, SC))
def f3_product_8 (rec : Int32 → Ob → Ob → Ob → Option (Int32 × Ob × Ob × Ob)) : Nat → Int32 → Int32 → Int32 → Ob → Ob → Ob → Option (Int32 × Ob × Ob × Ob)
  | 0, _, _, _, _, _, _ => none
  | n + 1, x1, x2, x3, SG, ST, SC => if 1000 ≤ x3 then
    (f3_product_60 rec x2 SG ST SC)
  else
    (if x2 = 0 then
      (f3_product_60 rec x2 SG ST SC)
    else
      (if (ST.1 3) = 42 then
        (bd (f10_advance ST) fun r_4 =>
        bd (rec x1 SG r_4 SC) fun r_6 =>
        lt (r_6.1 : Int32) fun x2_8 =>
        bd (f2_put 42 0 (r_6.2.2.2)) fun r_9 =>
        lt (x3 + 1 : Int32) fun x3_11 =>
        f3_product_8 rec n x1 x2_8 x3_11 (r_6.2.1) (r_6.2.2.1) r_9)
      else
        (f3_product_60 rec x2 SG ST SC)))
def f3_product (rec : Int32 → Ob → Ob → Ob → Option (Int32 × Ob × Ob × Ob)) (x1 : Int32) (SG : Ob) (ST : Ob) (SC : Ob) : Option (Int32 × Ob × Ob × Ob) :=
  bd (rec x1 SG ST SC) fun r_1 =>
  lt (r_1.1 : Int32) fun x2_3 =>
  f3_product_8 rec FU x1 x2_3 0 (r_1.2.1) (r_1.2.2.1) (r_1.2.2.2)
def f3_sum_45 (rec : Int32 → Ob → Ob → Ob → Option (Int32 × Ob × Ob × Ob)) (k8 : Int32 → Int32 → Int32 → Ob → Ob → Ob → Option (Int32 × Ob × Ob × Ob)) (x1 : Int32) (x3 : Int32) (x4 : Int32) (SG : Ob) (ST : Ob) (SC : Ob) : Option (Int32 × Ob × Ob × Ob) :=
  bd (f10_advance ST) fun r_1 =>
  bd (f3_product rec x1 SG r_1 SC) fun r_3 =>
  lt (r_3.1 : Int32) fun x2_5 =>
  bd (f2_put x4 0 (r_3.2.2.2)) fun r_6 =>
  lt (x3 + 1 : Int32) fun x3_8 =>
  k8 x1 x2_5 x3_8 (r_3.2.1) (r_3.2.2.1) r_6
def f3_sum_74 (rec : Int32 → Ob → Ob → Ob → Option (Int32 × Ob × Ob × Ob)) (x2 : Int32) (SG : Ob) (ST : Ob) (SC : Ob) : Option (Int32 × Ob × Ob × Ob) :=
  ck (isz x2) (some (x2, SG, ST, SC))
def f3_sum_8 (rec : Int32 → Ob → Ob → Ob → Option (Int32 × Ob × Ob × Ob)) : Nat → Int32 → Int32 → Int32 → Ob → Ob → Ob → Option (Int32 × Ob × Ob × Ob)
  | 0, _, _, _, _, _, _ => none
  | n + 1, x1, x2, x3, SG, ST, SC => if 1000 ≤ x3 then
    (f3_sum_74 rec x2 SG ST SC)
  else
    (if x2 = 0 then
      (f3_sum_74 rec x2 SG ST SC)
    else
      (lt (ST.1 3 : Int32) fun x4_3 =>
      if x4_3 = 43 then
        (f3_sum_45 rec (f3_sum_8 rec n) x1 x3 x4_3 SG ST SC)
      else
        (if x4_3 = 45 then
          (f3_sum_45 rec (f3_sum_8 rec n) x1 x3 x4_3 SG ST SC)
        else
          (f3_sum_74 rec x2 SG ST SC))))
def f3_sum (rec : Int32 → Ob → Ob → Ob → Option (Int32 × Ob × Ob × Ob)) (x1 : Int32) (SG : Ob) (ST : Ob) (SC : Ob) : Option (Int32 × Ob × Ob × Ob) :=
  bd (f3_product rec x1 SG ST SC) fun r_1 =>
  lt (r_1.1 : Int32) fun x2_3 =>
  f3_sum_8 rec FU x1 x2_3 0 (r_1.2.1) (r_1.2.2.1) (r_1.2.2.2)
def f3_test_52 (rec : Int32 → Ob → Ob → Ob → Option (Int32 × Ob × Ob × Ob)) (x2 : Int32) (SG : Ob) (ST : Ob) (SC : Ob) : Option (Int32 × Ob × Ob × Ob) :=
  ck (isz x2) (some (x2, SG, ST, SC))
def f3_test_30 (rec : Int32 → Ob → Ob → Ob → Option (Int32 × Ob × Ob × Ob)) (x1 : Int32) (x3 : Int32) (SG : Ob) (ST : Ob) (SC : Ob) : Option (Int32 × Ob × Ob × Ob) :=
  bd (f10_advance ST) fun r_1 =>
  bd (f3_sum rec x1 SG r_1 SC) fun r_3 =>
  lt (r_3.1 : Int32) fun x2_5 =>
  bd (f2_put x3 0 (r_3.2.2.2)) fun r_6 =>
  f3_test_52 rec x2_5 (r_3.2.1) (r_3.2.2.1) r_6
def f3_test (rec : Int32 → Ob → Ob → Ob → Option (Int32 × Ob × Ob × Ob)) (x1 : Int32) (SG : Ob) (ST : Ob) (SC : Ob) : Option (Int32 × Ob × Ob × Ob) :=
  bd (f3_sum rec x1 SG ST SC) fun r_1 =>
  lt (r_1.1 : Int32) fun x2_3 =>
  lt ((r_1.2.2.1).1 3 : Int32) fun x3_4 =>
  if x2_3 = 0 then
    (f3_test_52 rec x2_3 (r_1.2.1) (r_1.2.2.1) (r_1.2.2.2))
  else
    (if x3_4 = 60 then
      (f3_test_30 rec x1 x3_4 (r_1.2.1) (r_1.2.2.1) (r_1.2.2.2))
    else
      (if x3_4 = 61 then
        (f3_test_30 rec x1 x3_4 (r_1.2.1) (r_1.2.2.1) (r_1.2.2.2))
      else
        (f3_test_52 rec x2_3 (r_1.2.1) (r_1.2.2.1) (r_1.2.2.2))))
def f3_expression_45 (rec : Int32 → Ob → Ob → Ob → Option (Int32 × Ob × Ob × Ob)) (k8 : Int32 → Int32 → Int32 → Ob → Ob → Ob → Option (Int32 × Ob × Ob × Ob)) (x1 : Int32) (x3 : Int32) (x4 : Int32) (SG : Ob) (ST : Ob) (SC : Ob) : Option (Int32 × Ob × Ob × Ob) :=
  bd (f10_advance ST) fun r_1 =>
  bd (f3_test rec x1 SG r_1 SC) fun r_3 =>
  lt (r_3.1 : Int32) fun x2_5 =>
  bd (f2_put x4 0 (r_3.2.2.2)) fun r_6 =>
  lt (x3 + 1 : Int32) fun x3_8 =>
  k8 x1 x2_5 x3_8 (r_3.2.1) (r_3.2.2.1) r_6
def f3_expression_74 (rec : Int32 → Ob → Ob → Ob → Option (Int32 × Ob × Ob × Ob)) (x2 : Int32) (SG : Ob) (ST : Ob) (SC : Ob) : Option (Int32 × Ob × Ob × Ob) :=
  ck (isz x2) (some (x2, SG, ST, SC))
def f3_expression_8 (rec : Int32 → Ob → Ob → Ob → Option (Int32 × Ob × Ob × Ob)) : Nat → Int32 → Int32 → Int32 → Ob → Ob → Ob → Option (Int32 × Ob × Ob × Ob)
  | 0, _, _, _, _, _, _ => none
  | n + 1, x1, x2, x3, SG, ST, SC => if 1000 ≤ x3 then
    (f3_expression_74 rec x2 SG ST SC)
  else
    (if x2 = 0 then
      (f3_expression_74 rec x2 SG ST SC)
    else
      (lt (ST.1 3 : Int32) fun x4_3 =>
      if x4_3 = 27 then
        (f3_expression_45 rec (f3_expression_8 rec n) x1 x3 x4_3 SG ST SC)
      else
        (if x4_3 = 28 then
          (f3_expression_45 rec (f3_expression_8 rec n) x1 x3 x4_3 SG ST SC)
        else
          (f3_expression_74 rec x2 SG ST SC))))
def f3_expression (rec : Int32 → Ob → Ob → Ob → Option (Int32 × Ob × Ob × Ob)) (x1 : Int32) (SG : Ob) (ST : Ob) (SC : Ob) : Option (Int32 × Ob × Ob × Ob) :=
  bd (f3_test rec x1 SG ST SC) fun r_1 =>
  lt (r_1.1 : Int32) fun x2_3 =>
  f3_expression_8 rec FU x1 x2_3 0 (r_1.2.1) (r_1.2.2.1) (r_1.2.2.2)
def f3_part_139 (rec : Int32 → Ob → Ob → Ob → Option (Int32 × Ob × Ob × Ob)) (z0 : Int32) (SG : Ob) (ST : Ob) (SC : Ob) : Option (Int32 × Ob × Ob × Ob) :=
  ck (isz z0) (some (z0, SG, ST, SC))
def f3_part_138 (rec : Int32 → Ob → Ob → Ob → Option (Int32 × Ob × Ob × Ob)) (SG : Ob) (ST : Ob) (SC : Ob) : Option (Int32 × Ob × Ob × Ob) :=
  f3_part_139 rec 0 SG ST SC
def f3_part_54 (rec : Int32 → Ob → Ob → Ob → Option (Int32 × Ob × Ob × Ob)) (x1 : Int32) (x2 : Int32) (SG : Ob) (ST : Ob) (SC : Ob) : Option (Int32 × Ob × Ob × Ob) :=
  if x1 < 5 then
    (lt (ST.1 7 : Int32) fun x4_2 =>
    bd (f10_advance ST) fun r_3 =>
    if x2 = 26 then
      (bd (rec (x1 + 1) SG r_3 SC) fun r_15 =>
      lt (r_15.1 : Int32) fun x5_17 =>
      bd (f2_put 26 0 (r_15.2.2.2)) fun r_18 =>
      ck (isz x5_17) (some (x5_17, r_15.2.1, r_15.2.2.1, r_18)))
    else
      (if x2 = 40 then
        (bd (f3_expression rec (x1 + 1) SG r_3 SC) fun r_9 =>
        if (r_9.1) = 0 then
          (f3_part_138 rec (r_9.2.1) (r_9.2.2.1) (r_9.2.2.2))
        else
          (bd (f3_take 41 (r_9.2.1) (r_9.2.2.1)) fun r_12 =>
          if (r_12.1) = 0 then
            (f3_part_138 rec (r_12.2.1) (r_12.2.2) (r_9.2.2.2))
          else
            (f3_part_139 rec 1 (r_12.2.1) (r_12.2.2) (r_9.2.2.2))))
      else
        (bd (f2_put x2 x4_2 SC) fun r_7 =>
        some (1, SG, r_3, r_7))))
  else
    (bd (f3_fail 5 SG ST) fun r_20 =>
    ck (isz (r_20.1)) (some (r_20.1, r_20.2, ST, SC)))
def f3_part_31 (rec : Int32 → Ob → Ob → Ob → Option (Int32 × Ob × Ob × Ob)) (x1 : Int32) (x2 : Int32) (z0 : Int32) (SG : Ob) (ST : Ob) (SC : Ob) : Option (Int32 × Ob × Ob × Ob) :=
  if z0 = 0 then
    (if x2 = 26 then
      (f3_part_54 rec x1 x2 SG ST SC)
    else
      (if x2 = 40 then
        (f3_part_54 rec x1 x2 SG ST SC)
      else
        (bd (f3_fail 1 SG ST) fun r_4 =>
        ck (isz (r_4.1)) (some (r_4.1, r_4.2, ST, SC)))))
  else
    (f3_part_54 rec x1 x2 SG ST SC)
def f3_part_26 (rec : Int32 → Ob → Ob → Ob → Option (Int32 × Ob × Ob × Ob)) (x1 : Int32) (x2 : Int32) (SG : Ob) (ST : Ob) (SC : Ob) : Option (Int32 × Ob × Ob × Ob) :=
  f3_part_31 rec x1 x2 1 SG ST SC
def f3_part_30 (rec : Int32 → Ob → Ob → Ob → Option (Int32 × Ob × Ob × Ob)) (x1 : Int32) (x2 : Int32) (SG : Ob) (ST : Ob) (SC : Ob) : Option (Int32 × Ob × Ob × Ob) :=
  f3_part_31 rec x1 x2 0 SG ST SC
def f3_part_b (rec : Int32 → Ob → Ob → Ob → Option (Int32 × Ob × Ob × Ob)) (x1 : Int32) (SG : Ob) (ST : Ob) (SC : Ob) : Option (Int32 × Ob × Ob × Ob) :=
  lt (ST.1 3 : Int32) fun x2_1 =>
  if x2_1 = 33 then
    (f3_part_26 rec x1 x2_1 SG ST SC)
  else
    (if x2_1 < 29 then
      (f3_part_30 rec x1 x2_1 SG ST SC)
    else
      (if 31 < x2_1 then
        (f3_part_30 rec x1 x2_1 SG ST SC)
      else
        (f3_part_26 rec x1 x2_1 SG ST SC)))
def f3_part : Nat → Int32 → Ob → Ob → Ob → Option (Int32 × Ob × Ob × Ob)
  | 0, _, _, _, _ => none
  | dp + 1, x1, SG, ST, SC => f3_part_b (f3_part dp) x1 SG ST SC
/-! 45.reada.lean.txt -/
def f9_newName_49 (SR : Ob) (SG : Ob) (ST : Ob) (SI : Ob) : Option (Int32 × Ob × Ob) :=
  bd (f3_fail 3 SG ST) fun r_1 =>
  ck (isz (r_1.1)) (some (r_1.1, r_1.2, ST))
def f9_newName (SR : Ob) (SG : Ob) (ST : Ob) (SI : Ob) : Option (Int32 × Ob × Ob) :=
  bd (f10_isName ST) fun r_1 =>
  if r_1 = 0 then
    (bd (f3_fail 1 SG ST) fun r_12 =>
    ck (isz (r_12.1)) (some (r_12.1, r_12.2, ST)))
  else
    (bd (f4_guestNamed (ST.2.1 6) SI) fun r_4 =>
    if r_4 = (-1) then
      (bd (f4_signNamed (ST.2.1 6) SI) fun r_7 =>
      if r_7 = (-1) then
        (bd (f10_advance ST) fun r_10 =>
        some (1, SG, r_10))
      else
        (f9_newName_49 SR SG ST SI))
    else
      (f9_newName_49 SR SG ST SI))
def f9_numberBehind_57 (SR : Ob) (SG : Ob) (ST : Ob) : Option (Int32 × Ob × Ob) :=
  bd (f3_fail 4 SG ST) fun r_1 =>
  some ((-1), r_1.2, ST)
def f9_numberBehind (x1 : Int32) (x2 : Int32) (x3 : Int32) (SR : Ob) (SG : Ob) (ST : Ob) : Option (Int32 × Ob × Ob) :=
  bd (f3_take x1 SG ST) fun r_1 =>
  if (r_1.1) = 0 then
    (some ((-1), r_1.2.1, r_1.2.2))
  else
    (lt ((r_1.2.2).1 7 : Int32) fun x4_4 =>
    if ((r_1.2.2).1 3) = 33 then
      (if x4_4 < x2 then
        (f9_numberBehind_57 SR (r_1.2.1) (r_1.2.2))
      else
        (if x4_4 ≤ x3 then
          (bd (f10_advance (r_1.2.2)) fun r_8 =>
          some (x4_4, r_1.2.1, r_8))
        else
          (f9_numberBehind_57 SR (r_1.2.1) (r_1.2.2))))
    else
      (bd (f3_fail 1 (r_1.2.1) (r_1.2.2)) fun r_10 =>
      some ((-1), r_10.2, r_1.2.2)))
def f9_guestLine_79 (SR : Ob) (SG : Ob) (ST : Ob) (SI : Ob) : Option (Int32 × Ob × Ob × Ob) :=
  bd (f3_fail 1 SG ST) fun r_1 =>
  ck (isz (r_1.1)) (some (r_1.1, r_1.2, ST, SI))
def f9_guestLine (SR : Ob) (SG : Ob) (ST : Ob) (SI : Ob) : Option (Int32 × Ob × Ob × Ob) :=
  if (SI.1 0) < 8 then
    (bd (f10_advance ST) fun r_2 =>
    lt (r_2.2.1 6 : Int64) fun x2_4 =>
    bd (f9_newName SR SG r_2 SI) fun r_5 =>
    if (r_5.1) = 0 then
      (some (0, r_5.2.1, r_5.2.2, SI))
    else
      (lt (((r_5.2.2).1 3) - 14 : Int32) fun x4_8 =>
      if ((r_5.2.2).1 3) < 14 then
        (f9_guestLine_79 SR (r_5.2.1) (r_5.2.2) SI)
      else
        (if ((r_5.2.2).1 3) ≤ 17 then
          (bd (f10_advance (r_5.2.2)) fun r_11 =>
          bd (f9_numberBehind 1 1 12 SR (r_5.2.1) r_11) fun r_13 =>
          lt (r_13.1 : Int32) fun x5_15 =>
          if x5_15 = (-1) then
            (some (0, r_13.2.1, r_13.2.2, SI))
          else
            (bd (f9_numberBehind 2 1 99 SR (r_13.2.1) (r_13.2.2)) fun r_17 =>
            lt (r_17.1 : Int32) fun x6_19 =>
            if x6_19 = (-1) then
              (some (0, r_17.2.1, r_17.2.2, SI))
            else
              (bd (f4_addGuest x2_4 x4_8 x5_15 x6_19 SI) fun r_21 =>
              bd (f3_take 59 (r_17.2.1) (r_17.2.2)) fun r_23 =>
              ck (isz (r_23.1)) (some (r_23.1, r_23.2.1, r_23.2.2, r_21)))))
        else
          (f9_guestLine_79 SR (r_5.2.1) (r_5.2.2) SI))))
  else
    (bd (f3_fail 5 SG ST) fun r_25 =>
    ck (isz (r_25.1)) (some (r_25.1, r_25.2, ST, SI)))
def f9_signLine_101 (SR : Ob) (SG : Ob) (ST : Ob) (SC : Ob) (SI : Ob) : Option (Int32 × Ob × Ob × Ob × Ob × Ob) :=
  some (0, SR, SG, ST, SC, SI)
def f9_signLine (SR : Ob) (SG : Ob) (ST : Ob) (SC : Ob) (SI : Ob) : Option (Int32 × Ob × Ob × Ob × Ob × Ob) :=
  lt (SI.1 8 : Int32) fun x2_1 =>
  if x2_1 < 6 then
    (bd (f10_advance ST) fun r_3 =>
    lt (r_3.2.1 6 : Int64) fun x3_5 =>
    bd (f9_newName SR SG r_3 SI) fun r_6 =>
    if (r_6.1) = 0 then
      (some (0, SR, r_6.2.1, r_6.2.2, SC, SI))
    else
      (bd (f9_numberBehind 4 0 10 SR (r_6.2.1) (r_6.2.2)) fun r_9 =>
      lt (r_9.1 : Int32) fun x5_11 =>
      if x5_11 = (-1) then
        (some (0, SR, r_9.2.1, r_9.2.2, SC, SI))
      else
        (ck (inb x2_1 6) <|
        lt (oA SR 2 (Int32.toNatClampNeg x2_1) (SC.1 3) : Ob) fun SR_14 =>
        bd (f3_take 5 (r_9.2.1) (r_9.2.2)) fun r_15 =>
        if (r_15.1) = 0 then
          (f9_signLine_101 SR_14 (r_15.2.1) (r_15.2.2) SC SI)
        else
          (bd (f3_formula (f3_item DP) 0 (r_15.2.1) (r_15.2.2) SC SI) fun r_18 =>
          if (r_18.1) = 0 then
            (f9_signLine_101 SR_14 (r_18.2.1) (r_18.2.2.1) (r_18.2.2.2) SI)
          else
            (ck (inb x2_1 6) <|
            lt (oA SR_14 3 (Int32.toNatClampNeg x2_1) ((r_18.2.2.2).1 3) : Ob) fun SR_22 =>
            bd (f4_addSign x3_5 x5_11 SI) fun r_23 =>
            bd (f3_take 59 (r_18.2.1) (r_18.2.2.1)) fun r_25 =>
            ck (isz (r_25.1)) (some (r_25.1, SR_22, r_25.2.1, r_25.2.2, r_18.2.2.2, r_23)))))))
  else
    (bd (f3_fail 5 SG ST) fun r_27 =>
    ck (isz (r_27.1)) (some (r_27.1, SR, r_27.2, ST, SC, SI)))
def f9_seesLine_79 (k52 : Int32 → Int32 → Int32 → Ob → Ob → Ob → Ob → Option (Int32 × Ob × Ob × Ob)) (x2 : Int32) (x3 : Int32) (x4 : Int32) (SR : Ob) (SG : Ob) (ST : Ob) (SI : Ob) : Option (Int32 × Ob × Ob × Ob) :=
  bd (f3_namedSign SG ST SI) fun r_1 =>
  lt (r_1.1 : Int32) fun x5_3 =>
  if x5_3 = (-1) then
    (some (0, r_1.2, ST, SI))
  else
    (if ((ush x3 x5_3) &&& 1) = 1 then
      (bd (f3_fail 3 (r_1.2) ST) fun r_10 =>
      ck (isz (r_10.1)) (some (r_10.1, r_10.2, ST, SI)))
    else
      (lt (x3 ||| (1 <<< (x5_3 &&& 31)) : Int32) fun x3_6 =>
      bd (f10_advance ST) fun r_7 =>
      lt (x4 + 1 : Int32) fun x4_9 =>
      k52 x2 x3_6 x4_9 SR (r_1.2) r_7 SI))
def f9_seesLine_135 (x2 : Int32) (x3 : Int32) (SR : Ob) (SG : Ob) (ST : Ob) (SI : Ob) : Option (Int32 × Ob × Ob × Ob) :=
  ck (inb x2 8) <|
  lt (oA SI 5 (Int32.toNatClampNeg x2) x3 : Ob) fun SI_2 =>
  bd (f3_take 59 SG ST) fun r_3 =>
  ck (isz (r_3.1)) (some (r_3.1, r_3.2.1, r_3.2.2, SI_2))
def f9_seesLine_52 : Nat → Int32 → Int32 → Int32 → Ob → Ob → Ob → Ob → Option (Int32 × Ob × Ob × Ob)
  | 0, _, _, _, _, _, _, _ => none
  | n + 1, x2, x3, x4, SR, SG, ST, SI => if 6 < x4 then
    (f9_seesLine_135 x2 x3 SR SG ST SI)
  else
    (if x4 ≤ 0 then
      (f9_seesLine_79 (f9_seesLine_52 n) x2 x3 x4 SR SG ST SI)
    else
      (if (ST.1 3) = 59 then
        (f9_seesLine_135 x2 x3 SR SG ST SI)
      else
        (f9_seesLine_79 (f9_seesLine_52 n) x2 x3 x4 SR SG ST SI)))
def f9_seesLine (SR : Ob) (SG : Ob) (ST : Ob) (SI : Ob) : Option (Int32 × Ob × Ob × Ob) :=
  bd (f10_advance ST) fun r_1 =>
  bd (f3_namedGuest SG r_1 SI) fun r_3 =>
  lt (r_3.1 : Int32) fun x2_5 =>
  if x2_5 = (-1) then
    (some (0, r_3.2, r_1, SI))
  else
    (ck (inb x2_5 8) <|
    if (SI.2.2.1 5 (Int32.toNatClampNeg x2_5)) = 0 then
      (bd (f10_advance r_1) fun r_9 =>
      f9_seesLine_52 FU x2_5 0 0 SR (r_3.2) r_9 SI)
    else
      (bd (f3_fail 3 (r_3.2) r_1) fun r_11 =>
      ck (isz (r_11.1)) (some (r_11.1, r_11.2, r_1, SI))))
def f9_shunLine_63 (SR : Ob) (SG : Ob) (ST : Ob) (SI : Ob) : Option (Int32 × Ob × Ob × Ob) :=
  bd (f3_fail 3 SG ST) fun r_1 =>
  ck (isz (r_1.1)) (some (r_1.1, r_1.2, ST, SI))
def f9_shunLine (SR : Ob) (SG : Ob) (ST : Ob) (SI : Ob) : Option (Int32 × Ob × Ob × Ob) :=
  bd (f10_advance ST) fun r_1 =>
  bd (f3_namedGuest SG r_1 SI) fun r_3 =>
  lt (r_3.1 : Int32) fun x2_5 =>
  if x2_5 = (-1) then
    (some (0, r_3.2, r_1, SI))
  else
    (bd (f10_advance r_1) fun r_7 =>
    bd (f3_namedGuest (r_3.2) r_7 SI) fun r_9 =>
    lt (r_9.1 : Int32) fun x3_11 =>
    if x3_11 = (-1) then
      (some (0, r_9.2, r_7, SI))
    else
      (if x2_5 = x3_11 then
        (f9_shunLine_63 SR (r_9.2) r_7 SI)
      else
        (ck (inb x2_5 8) <|
        if ((ush (SI.2.2.1 6 (Int32.toNatClampNeg x2_5)) x3_11) &&& 1) = 1 then
          (f9_shunLine_63 SR (r_9.2) r_7 SI)
        else
          (ck (inb x2_5 8) <|
          ck (inb x2_5 8) <|
          lt (oA SI 6 (Int32.toNatClampNeg x2_5) ((SI.2.2.1 6 (Int32.toNatClampNeg x2_5)) ||| (1 <<< (x3_11 &&& 31))) : Ob) fun SI_18 =>
          ck (inb x3_11 8) <|
          ck (inb x3_11 8) <|
          lt (oA SI_18 6 (Int32.toNatClampNeg x3_11) ((SI_18.2.2.1 6 (Int32.toNatClampNeg x3_11)) ||| (1 <<< (x2_5 &&& 31))) : Ob) fun SI_21 =>
          bd (f10_advance r_7) fun r_22 =>
          bd (f3_take 59 (r_9.2) r_22) fun r_24 =>
          ck (isz (r_24.1)) (some (r_24.1, r_24.2.1, r_24.2.2, SI_21))))))
/-! 46.readb.lean.txt -/
def f9_billLine (SR : Ob) (SG : Ob) (ST : Ob) (SC : Ob) : Option (Int32 × Ob × Ob × Ob × Ob) :=
  if (SR.1 6) = 0 then
    (lt (oI SR 6 1 : Ob) fun SR_3 =>
    bd (f10_advance ST) fun r_4 =>
    lt (oI SR_3 4 (SC.1 3) : Ob) fun SR_6 =>
    bd (f3_expression (f3_part DP) 0 SG r_4 SC) fun r_7 =>
    if (r_7.1) = 0 then
      (some (0, SR_6, r_7.2.1, r_7.2.2.1, r_7.2.2.2))
    else
      (lt (oI SR_6 5 ((r_7.2.2.2).1 3) : Ob) fun SR_10 =>
      bd (f3_take 59 (r_7.2.1) (r_7.2.2.1)) fun r_11 =>
      ck (isz (r_11.1)) (some (r_11.1, SR_10, r_11.2.1, r_11.2.2, r_7.2.2.2))))
  else
    (bd (f3_fail 3 SG ST) fun r_13 =>
    ck (isz (r_13.1)) (some (r_13.1, SR, r_13.2, ST, SC)))
def f9_innLine (SR : Ob) (SG : Ob) (ST : Ob) (SC : Ob) (SI : Ob) : Option (Int32 × Ob × Ob × Ob × Ob × Ob) :=
  if (ST.1 3) = 0 then
    (bd (f9_guestLine SR SG ST SI) fun r_2 =>
    ck (isz (r_2.1)) (some (r_2.1, SR, r_2.2.1, r_2.2.2.1, SC, r_2.2.2.2)))
  else if (ST.1 3) = 3 then
      (bd (f9_signLine SR SG ST SC SI) fun r_5 =>
      ck (isz (r_5.1)) (some (r_5.1, r_5.2.1, r_5.2.2.1, r_5.2.2.2.1, r_5.2.2.2.2.1, r_5.2.2.2.2.2)))
    else if (ST.1 3) = 6 then
        (bd (f9_seesLine SR SG ST SI) fun r_8 =>
        ck (isz (r_8.1)) (some (r_8.1, SR, r_8.2.1, r_8.2.2.1, SC, r_8.2.2.2)))
      else if (ST.1 3) = 7 then
          (bd (f9_shunLine SR SG ST SI) fun r_11 =>
          ck (isz (r_11.1)) (some (r_11.1, SR, r_11.2.1, r_11.2.2.1, SC, r_11.2.2.2)))
        else if (ST.1 3) = 8 then
            (bd (f9_billLine SR SG ST SC) fun r_14 =>
            ck (isz (r_14.1)) (some (r_14.1, r_14.2.1, r_14.2.2.1, r_14.2.2.2.1, r_14.2.2.2.2, SI)))
          else 
    (bd (f3_fail 1 SG ST) fun r_28 =>
                    ck (isz (r_28.1)) (some (r_28.1, SR, r_28.2, ST, SC, SI)))
def f9_workOut_91 (k52 : Int32 → Ob → Ob → Ob → Ob → Option (Ob × Ob)) (x2 : Int32) (z0 : Int32) (SR : Ob) (SG : Ob) (SC : Ob) (SI : Ob) : Option (Ob × Ob) :=
  ck (inb x2 8) <|
  lt (oA SI 7 (Int32.toNatClampNeg x2) (if 0 < (if z0 < 99 then z0 else 99) then (if z0 < 99 then z0 else 99) else 0) : Ob) fun SI_2 =>
  lt (x2 + 1 : Int32) fun x2_3 =>
  k52 x2_3 SR SG SC SI_2
def f9_workOut_52 : Nat → Int32 → Ob → Ob → Ob → Ob → Option (Ob × Ob)
  | 0, _, _, _, _, _ => none
  | n + 1, x2, SR, SG, SC, SI => if (SI.1 0) ≤ x2 then
    (some (SC, SI))
  else
    (if (SR.1 6) = 0 then
      (f9_workOut_91 (f9_workOut_52 n) x2 1 SR SG SC SI)
    else
      (bd (f2_amount x2 (SR.1 4) (SR.1 5) SC SI) fun r_3 =>
      f9_workOut_91 (f9_workOut_52 n) x2 (r_3.1) SR SG (r_3.2) SI))
def f9_workOut_50 (SR : Ob) (SG : Ob) (SC : Ob) (SI : Ob) : Option (Ob × Ob) :=
  f9_workOut_52 FU 0 SR SG SC SI
def f9_workOut_2 : Nat → Int32 → Ob → Ob → Ob → Ob → Option (Ob × Ob)
  | 0, _, _, _, _, _ => none
  | n + 1, x2, SR, SG, SC, SI => if (SI.1 8) ≤ x2 then
    (f9_workOut_50 SR SG SC SI)
  else
    (if 6 ≤ x2 then
      (f9_workOut_50 SR SG SC SI)
    else
      (ck (inb x2 6) <|
      ck (inb x2 6) <|
      bd (f2_worlds (SR.2.2.1 2 (Int32.toNatClampNeg x2)) (SR.2.2.1 3 (Int32.toNatClampNeg x2)) SC SI) fun r_5 =>
      bd (f4_letShow x2 (r_5.1) SI) fun r_7 =>
      lt (x2 + 1 : Int32) fun x2_9 =>
      f9_workOut_2 n x2_9 SR SG (r_5.2) r_7))
def f9_workOut (SR : Ob) (SG : Ob) (SC : Ob) (SI : Ob) : Option (Ob × Ob) :=
  f9_workOut_2 FU 0 SR SG SC SI
def f9_readInn_73 (SR : Ob) (SG : Ob) (ST : Ob) (SC : Ob) (SI : Ob) : Option (Int32 × Ob × Ob × Ob × Ob × Ob) :=
  some (SG.1 3, SR, SG, ST, SC, SI)
def f9_readInn_56 (x2 : Int32) (SR : Ob) (SG : Ob) (ST : Ob) (SC : Ob) (SI : Ob) : Option (Int32 × Ob × Ob × Ob × Ob × Ob) :=
  lt (oI ST 2 0 : Ob) fun ST_1 =>
  if x2 = 0 then
    (f9_readInn_73 SR SG ST_1 SC SI)
  else
    (bd (f9_workOut SR SG SC SI) fun r_3 =>
    f9_readInn_73 SR SG ST_1 (r_3.1) (r_3.2))
def f9_readInn_21 : Nat → Int32 → Int32 → Ob → Ob → Ob → Ob → Ob → Option (Int32 × Ob × Ob × Ob × Ob × Ob)
  | 0, _, _, _, _, _, _, _ => none
  | n + 1, x2, x3, SR, SG, ST, SC, SI => if 1000 ≤ x3 then
    (f9_readInn_56 x2 SR SG ST SC SI)
  else
    (if x2 = 0 then
      (f9_readInn_56 x2 SR SG ST SC SI)
    else
      (if (ST.1 3) = 34 then
        (f9_readInn_56 x2 SR SG ST SC SI)
      else
        (bd (f9_innLine SR SG ST SC SI) fun r_4 =>
        lt (r_4.1 : Int32) fun x2_6 =>
        lt (x3 + 1 : Int32) fun x3_7 =>
        f9_readInn_21 n x2_6 x3_7 (r_4.2.1) (r_4.2.2.1) (r_4.2.2.2.1) (r_4.2.2.2.2.1) (r_4.2.2.2.2.2))))
def f9_readInn (SR : Ob) (SG : Ob) (ST : Ob) (SC : Ob) (SI : Ob) : Option (Int32 × Ob × Ob × Ob × Ob × Ob) :=
  bd (f4_clear SI) fun r_1 =>
  lt (oI SR 6 0 : Ob) fun SR_4 =>
  bd (f3_begin SG ST SC) fun r_5 =>
  f9_readInn_21 FU 1 0 SR_4 (r_5.1) (r_5.2.1) (r_5.2.2) r_1
def f9_morningLine_20 (SR : Ob) (SG : Ob) (ST : Ob) (SC : Ob) (SI : Ob) (SN : Ob) : Option (Int32 × Ob × Ob × Ob × Ob) :=
  bd (f3_fail 1 SG ST) fun r_1 =>
  ck (isz (r_1.1)) (some (r_1.1, r_1.2, ST, SC, SN))
def f9_morningLine_174 (SR : Ob) (SG : Ob) (ST : Ob) (SC : Ob) (SI : Ob) (SN : Ob) : Option (Int32 × Ob × Ob × Ob × Ob) :=
  bd (f3_fail 1 SG ST) fun r_1 =>
  ck (isz (r_1.1)) (some (r_1.1, r_1.2, ST, SC, SN))
def f9_morningLine_269 (z1 : Int32) (z2 : Int32) (SR : Ob) (SG : Ob) (ST : Ob) (SC : Ob) (SI : Ob) (SN : Ob) : Option (Int32 × Ob × Ob × Ob × Ob) :=
  bd (f7_add z1 z2 SN) fun r_1 =>
  bd (f3_take 59 SG ST) fun r_3 =>
  ck (isz (r_3.1)) (some (r_3.1, r_3.2.1, r_3.2.2, SC, r_1))
def f9_morningLine_255 (x3 : Int32) (x4 : Int32) (SR : Ob) (SG : Ob) (ST : Ob) (SC : Ob) (SI : Ob) (SN : Ob) : Option (Int32 × Ob × Ob × Ob × Ob) :=
  if x3 = 13 then
    (f9_morningLine_269 x4 1 SR SG ST SC SI SN)
  else
    (f9_morningLine_269 x4 0 SR SG ST SC SI SN)
def f9_morningLine_243 (x3 : Int32) (z1 : Int32) (z2 : Int32) (SR : Ob) (SG : Ob) (ST : Ob) (SC : Ob) (SI : Ob) (SN : Ob) : Option (Int32 × Ob × Ob × Ob × Ob) :=
  bd (f4_worldsShowing z1 z2 SI) fun r_1 =>
  bd (f10_advance ST) fun r_3 =>
  f9_morningLine_255 x3 r_1 SR SG r_3 SC SI SN
def f9_morningLine (SR : Ob) (SG : Ob) (ST : Ob) (SC : Ob) (SI : Ob) (SN : Ob) : Option (Int32 × Ob × Ob × Ob × Ob) :=
  lt (ST.1 3 : Int32) fun x3_1 =>
  if x3_1 < 9 then
    (f9_morningLine_20 SR SG ST SC SI SN)
  else
    (if x3_1 ≤ 13 then
      (if (SN.1 0) < 24 then
        (bd (f10_advance ST) fun r_5 =>
        if x3_1 = 9 then
          (bd (f3_namedGuest SG r_5 SI) fun r_21 =>
          lt (r_21.1 : Int32) fun x5_23 =>
          if x5_23 = (-1) then
            (some (0, r_21.2, r_5, SC, SN))
          else
            (bd (f10_advance r_5) fun r_25 =>
            lt (oI SC 3 0 : Ob) fun SC_27 =>
            bd (f3_formula (f3_item DP) 0 (r_21.2) r_25 SC_27 SI) fun r_28 =>
            if (r_28.1) = 0 then
              (some (0, r_28.2.1, r_28.2.2.1, r_28.2.2.2, SN))
            else
              (bd (f2_worlds 0 ((r_28.2.2.2).1 3) (r_28.2.2.2) SI) fun r_31 =>
              bd (f4_sayable x5_23 (r_31.1) SI) fun r_33 =>
              f9_morningLine_255 x3_1 r_33 SR (r_28.2.1) (r_28.2.2.1) (r_31.2) SI SN)))
        else
          (if x3_1 = 12 then
            (if (r_5.1 3) < 18 then
              (f9_morningLine_174 SR SG r_5 SC SI SN)
            else
              (if (r_5.1 3) ≤ 21 then
                (bd (f4_worldsBy (r_5.1 3) SI) fun r_17 =>
                bd (f10_advance r_5) fun r_19 =>
                f9_morningLine_255 x3_1 r_17 SR SG r_19 SC SI SN)
              else
                (f9_morningLine_174 SR SG r_5 SC SI SN)))
          else
            (if x3_1 = 13 then
              (f9_morningLine_255 x3_1 0 SR SG r_5 SC SI SN)
            else
              (bd (f3_namedSign SG r_5 SI) fun r_10 =>
              lt (r_10.1 : Int32) fun x5_12 =>
              if x5_12 = (-1) then
                (some (0, r_10.2, r_5, SC, SN))
              else
                (if x3_1 = 10 then
                  (f9_morningLine_243 x3_1 x5_12 1 SR (r_10.2) r_5 SC SI SN)
                else
                  (f9_morningLine_243 x3_1 x5_12 0 SR (r_10.2) r_5 SC SI SN))))))
      else
        (bd (f3_fail 5 SG ST) fun r_35 =>
        ck (isz (r_35.1)) (some (r_35.1, r_35.2, ST, SC, SN))))
    else
      (f9_morningLine_20 SR SG ST SC SI SN))
def f9_readMorning_55 (SR : Ob) (SG : Ob) (ST : Ob) (SC : Ob) (SI : Ob) (SN : Ob) : Option (Int32 × Ob × Ob × Ob × Ob) :=
  lt (oI ST 2 0 : Ob) fun ST_1 =>
  some (SG.1 3, SG, ST_1, SC, SN)
def f9_readMorning_18 : Nat → Int32 → Int32 → Ob → Ob → Ob → Ob → Ob → Ob → Option (Int32 × Ob × Ob × Ob × Ob)
  | 0, _, _, _, _, _, _, _, _ => none
  | n + 1, x3, x4, SR, SG, ST, SC, SI, SN => if 1000 ≤ x4 then
    (f9_readMorning_55 SR SG ST SC SI SN)
  else
    (if x3 = 0 then
      (f9_readMorning_55 SR SG ST SC SI SN)
    else
      (if (ST.1 3) = 34 then
        (f9_readMorning_55 SR SG ST SC SI SN)
      else
        (bd (f9_morningLine SR SG ST SC SI SN) fun r_4 =>
        lt (r_4.1 : Int32) fun x3_6 =>
        lt (x4 + 1 : Int32) fun x4_7 =>
        f9_readMorning_18 n x3_6 x4_7 SR (r_4.2.1) (r_4.2.2.1) (r_4.2.2.2.1) SI (r_4.2.2.2.2))))
def f9_readMorning (SR : Ob) (SG : Ob) (ST : Ob) (SC : Ob) (SI : Ob) (SN : Ob) : Option (Int32 × Ob × Ob × Ob × Ob) :=
  lt (oI SN 0 0 : Ob) fun SN_1 =>
  bd (f3_begin SG ST SC) fun r_2 =>
  f9_readMorning_18 FU 1 0 SR (r_2.1) (r_2.2.1) (r_2.2.2) SI SN_1
/-! 50.eg0.lean.txt -/
def f11_feed (x1 : Int64) (x3 : Int64) (x5 : Int64) (SX : Ob) (ST : Ob) : Option (Int32 × Ob) :=
  bd (f10_put x1 ST) fun r_1 =>
  bd (f10_put x3 r_1) fun r_3 =>
  bd (f10_put x5 r_3) fun r_5 =>
  some (r_5.1 2, r_5)
def f11_guest (x1 : Int32) (x2 : Int32) (SX : Ob) (SH : Ob) : Option (Int32) :=
  bd (f4_hasGuest x1 SH) fun r_1 =>
  if r_1 = 0 then
    (some (-1))
  else
    (if x2 = 0 then
      (ck (inb x1 8) <|
      some (SH.2.2.1 2 (Int32.toNatClampNeg x1)))
    else if x2 = 1 then
        (ck (inb x1 8) <|
        some (SH.2.2.1 3 (Int32.toNatClampNeg x1)))
      else if x2 = 2 then
          (ck (inb x1 8) <|
          some (SH.2.2.1 4 (Int32.toNatClampNeg x1)))
        else if x2 = 3 then
            (ck (inb x1 8) <|
            some (SH.2.2.1 5 (Int32.toNatClampNeg x1)))
          else if x2 = 4 then
              (ck (inb x1 8) <|
              some (SH.2.2.1 6 (Int32.toNatClampNeg x1)))
            else 
      (some (-1)))
def f11_shows_24 (z0 : Int32) (SX : Ob) (SH : Ob) : Option (Int32) :=
  some z0
def f11_shows (x1 : Int32) (SX : Ob) (SH : Ob) : Option (Int32) :=
  bd (f4_hasWorld x1 SH) fun r_1 =>
  if r_1 = 0 then
    (f11_shows_24 (-1) SX SH)
  else
    (ck (inb x1 32) <|
    f11_shows_24 (SH.2.2.1 12 (Int32.toNatClampNeg x1)) SX SH)
def f11_left (SX : Ob) (SB : Ob) : Option (Int32) :=
  some (SB.1 0)
def f11_leave_25 (z0 : Int32) (SX : Ob) (SB : Ob) : Option (Int32 × Ob) :=
  some (z0, SB)
def f11_leave (x1 : Int32) (SX : Ob) (SB : Ob) : Option (Int32 × Ob) :=
  bd (f0_narrow x1 SB) fun r_1 =>
  if (r_1.1) = 0 then
    (f11_leave_25 (-1) SX (r_1.2))
  else
    (bd (fj6_bitCount ((r_1.2).1 0)) fun r_4 =>
    f11_leave_25 r_4 SX (r_1.2))
def f11_answer_22 (SX : Ob) (SH : Ob) (SB : Ob) : Option (Int32 × Ob) :=
  some ((-1), SB)
def f11_answer_53 (z2 : Int32) (z3 : Int32) (SX : Ob) (SH : Ob) (SB : Ob) : Option (Int32 × Ob) :=
  bd (f4_sayable z2 z3 SH) fun r_1 =>
  bd (f11_leave r_1 SX SB) fun r_3 =>
  some (r_3.1, r_3.2)
def f11_answer (x1 : Int32) (x2 : Int32) (x3 : Int32) (SX : Ob) (SH : Ob) (SB : Ob) : Option (Int32 × Ob) :=
  bd (f4_hasGuest x1 SH) fun r_1 =>
  if r_1 = 0 then
    (f11_answer_22 SX SH SB)
  else
    (bd (f4_hasGuest x2 SH) fun r_4 =>
    if r_4 = 0 then
      (f11_answer_22 SX SH SB)
    else
      (bd (f4_worldsOf x2 SH) fun r_7 =>
      if x3 = 0 then
        (f11_answer_53 x1 (r_7 ^^^ (-1)) SX SH SB)
      else
        (f11_answer_53 x1 r_7 SX SH SB)))
def f11_sign_28 (z0 : Int32) (SX : Ob) (SH : Ob) (SB : Ob) : Option (Int32 × Ob) :=
  some (z0, SB)
def f11_sign (x1 : Int32) (x2 : Int32) (SX : Ob) (SH : Ob) (SB : Ob) : Option (Int32 × Ob) :=
  bd (f4_hasSign x1 SH) fun r_1 =>
  if r_1 = 0 then
    (f11_sign_28 (-1) SX SH SB)
  else
    (bd (f4_worldsShowing x1 x2 SH) fun r_4 =>
    bd (f11_leave r_4 SX SB) fun r_6 =>
    f11_sign_28 (r_6.1) SX SH (r_6.2))
def f11_weather_9 (SX : Ob) (SH : Ob) (SB : Ob) : Option (Int32 × Ob) :=
  some ((-1), SB)
def f11_weather (x1 : Int32) (SX : Ob) (SH : Ob) (SB : Ob) : Option (Int32 × Ob) :=
  if x1 < 0 then
    (f11_weather_9 SX SH SB)
  else
    (if x1 < 4 then
      (bd (f4_worldsBy (18 + x1) SH) fun r_3 =>
      bd (f11_leave r_3 SX SB) fun r_5 =>
      some (r_5.1, r_5.2))
    else
      (f11_weather_9 SX SH SB))
def f11_night_22 (SX : Ob) (SH : Ob) (SB : Ob) : Option (Int32 × Ob) :=
  some ((-1), SB)
def f11_night (SX : Ob) (SH : Ob) (SB : Ob) : Option (Int32 × Ob) :=
  if (SH.1 0) = 0 then
    (f11_night_22 SX SH SB)
  else
    (if (SB.1 1) < 10 then
      (bd (f4_guestsIn (SB.1 0) SH) fun r_3 =>
      bd (f4_all SH) fun r_5 =>
      bd (f0_endNight r_3 r_5 SB) fun r_7 =>
      some (r_3, r_7))
    else
      (f11_night_22 SX SH SB))
def f11_undo (SX : Ob) (SB : Ob) : Option (Int32 × Ob) :=
  bd (f0_stepBack SB) fun r_1 =>
  ck (isz (r_1.1)) (some (r_1.1, r_1.2))
def f11_onlyOne_16 (z0 : Int32) : Option (Int32) :=
  some z0
def f11_onlyOne (x0 : Int32) : Option (Int32) :=
  bd (fj6_bitCount x0) fun r_1 =>
  if r_1 = 1 then
    (bd (fj6_numberOfTrailingZeros x0) fun r_4 =>
    f11_onlyOne_16 r_4)
  else
    (f11_onlyOne_16 (-1))
def f11_judged (x1 : Int32) (SX : Ob) (SH : Ob) (SP : Ob) : Option (Int32) :=
  if x1 = 0 then
    (bd (f4_all SH) fun r_2 =>
    bd (f7_firstThatCannotBe r_2 SP) fun r_4 =>
    some r_4)
  else if x1 = 1 then
      (bd (f4_all SH) fun r_7 =>
      bd (f7_leftAtLast r_7 (-1) SP) fun r_9 =>
      bd (fj6_bitCount r_9) fun r_11 =>
      some r_11)
    else if x1 = 2 then
        (bd (f4_all SH) fun r_14 =>
        bd (f7_leftAtLast r_14 (-1) SP) fun r_16 =>
        bd (f4_guestsIn r_16 SH) fun r_18 =>
        bd (f11_onlyOne r_18) fun r_20 =>
        some r_20)
      else 
    (some (-2))
def f11_spare (SX : Ob) (SH : Ob) (SP : Ob) : Option (Int32) :=
  bd (f4_all SH) fun r_1 =>
  bd (f7_needless r_1 SP) fun r_3 =>
  some r_3
def f11_who (SX : Ob) (SH : Ob) (SB : Ob) : Option (Int32) :=
  bd (f4_guestsIn (SB.1 0) SH) fun r_1 =>
  some r_1
def f11_ask (SX : Ob) (SH : Ob) (SB : Ob) : Option (Int32) :=
  bd (f8_best (SB.1 0) SH) fun r_1 =>
  some r_1
def f11_fewest (SX : Ob) (SQ : Ob) (SH : Ob) (SB : Ob) : Option (Int32 × Ob) :=
  bd (f8_deepest (SB.1 0) SQ SH) fun r_1 =>
  some (r_1.1, r_1.2)
def f11_tell (SX : Ob) (SH : Ob) (SB : Ob) : Option (Int32) :=
  bd (f6_tellingSigns (SB.1 0) SH) fun r_1 =>
  some r_1
def f11_isLeft_31 (z0 : Int32) (SX : Ob) (SH : Ob) (SB : Ob) : Option (Int32) :=
  ck (isz z0) (some z0)
def f11_isLeft_30 (SX : Ob) (SH : Ob) (SB : Ob) : Option (Int32) :=
  f11_isLeft_31 0 SX SH SB
def f11_isLeft (x1 : Int32) (SX : Ob) (SH : Ob) (SB : Ob) : Option (Int32) :=
  bd (f4_hasWorld x1 SH) fun r_1 =>
  if r_1 = 0 then
    (f11_isLeft_30 SX SH SB)
  else
    (if ((ush (SB.1 0) x1) &&& 1) = 1 then
      (f11_isLeft_31 1 SX SH SB)
    else
      (f11_isLeft_30 SX SH SB))
def f11_knows_19 (SX : Ob) (SH : Ob) (SB : Ob) : Option (Int32) :=
  some (-1)
def f11_knows (x1 : Int32) (x2 : Int32) (SX : Ob) (SH : Ob) (SB : Ob) : Option (Int32) :=
  bd (f4_hasGuest x1 SH) fun r_1 =>
  if r_1 = 0 then
    (f11_knows_19 SX SH SB)
  else
    (bd (f11_isLeft x2 SX SH SB) fun r_4 =>
    if r_4 = 0 then
      (f11_knows_19 SX SH SB)
    else
      (bd (f6_view x1 x2 (SB.1 0) SH) fun r_7 =>
      bd (f4_guestsIn r_7 SH) fun r_9 =>
      some r_9))
/-! 51.eg1.lean.txt -/
def f11_sure_35 (SX : Ob) (SH : Ob) (SB : Ob) : Option (Int32) :=
  some (-1)
def f11_sure_83 (z0 : Int32) (SX : Ob) (SH : Ob) (SB : Ob) : Option (Int32) :=
  some z0
def f11_sure (x1 : Int32) (x2 : Int32) (x3 : Int32) (SX : Ob) (SH : Ob) (SB : Ob) : Option (Int32) :=
  bd (f4_hasGuest x1 SH) fun r_1 =>
  if r_1 = 0 then
    (f11_sure_35 SX SH SB)
  else
    (bd (f4_hasGuest x2 SH) fun r_4 =>
    if r_4 = 0 then
      (f11_sure_35 SX SH SB)
    else
      (if x1 = x2 then
        (f11_sure_35 SX SH SB)
      else
        (bd (f11_isLeft x3 SX SH SB) fun r_8 =>
        if r_8 = 0 then
          (f11_sure_35 SX SH SB)
        else
          (bd (f6_view x1 x3 (SB.1 0) SH) fun r_11 =>
          bd (f6_knowing x2 (SB.1 0) SH) fun r_13 =>
          if (r_11 &&& (r_13 ^^^ (-1))) = 0 then
            (f11_sure_83 1 SX SH SB)
          else
            (f11_sure_83 0 SX SH SB)))))
def f11_rounds_17 (SX : Ob) (SH : Ob) (SB : Ob) : Option (Int32) :=
  some (-1)
def f11_rounds_41 (z1 : Int32) (z2 : Int32) (z3 : Int32) (SX : Ob) (SH : Ob) (SB : Ob) : Option (Int32) :=
  bd (f6_sayingRounds z1 z2 z3 SH) fun r_1 =>
  some r_1
def f11_rounds (x1 : Int32) (x2 : Int32) (SX : Ob) (SH : Ob) (SB : Ob) : Option (Int32) :=
  bd (f11_isLeft x1 SX SH SB) fun r_1 =>
  if r_1 = 0 then
    (f11_rounds_17 SX SH SB)
  else
    (if x2 < 0 then
      (f11_rounds_17 SX SH SB)
    else
      (if x2 ≤ 1 then
        (if x2 = 1 then
          (f11_rounds_41 x1 (SB.1 0) 1 SX SH SB)
        else
          (f11_rounds_41 x1 (SB.1 0) 0 SX SH SB))
      else
        (f11_rounds_17 SX SH SB)))
def f11_common_34 (z0 : Int32) (SX : Ob) (SH : Ob) (SB : Ob) : Option (Int32) :=
  some z0
def f11_common (x1 : Int32) (SX : Ob) (SH : Ob) (SB : Ob) : Option (Int32) :=
  bd (f11_isLeft x1 SX SH SB) fun r_1 =>
  if r_1 = 0 then
    (f11_common_34 (-1) SX SH SB)
  else
    (bd (f6_reached x1 (SB.1 0) SH) fun r_4 =>
    bd (f4_guestsIn r_4 SH) fun r_6 =>
    f11_common_34 r_6 SX SH SB)
def f11_hear_28 (z0 : Int32) (SX : Ob) (SH : Ob) (SB : Ob) : Option (Int32 × Ob) :=
  ck (isz z0) (some (z0, SB))
def f11_hear_27 (SX : Ob) (SH : Ob) (SB : Ob) : Option (Int32 × Ob) :=
  f11_hear_28 0 SX SH SB
def f11_hear (x1 : Int32) (x2 : Int32) (SX : Ob) (SH : Ob) (SB : Ob) : Option (Int32 × Ob) :=
  bd (f4_hasSign x1 SH) fun r_1 =>
  if r_1 = 0 then
    (f11_hear_27 SX SH SB)
  else
    (bd (f0_hearAlso x1 x2 SB) fun r_4 =>
    if (r_4.1) = 0 then
      (f11_hear_27 SX SH (r_4.2))
    else
      (f11_hear_28 1 SX SH (r_4.2)))
def f11_likely (SX : Ob) (SH : Ob) (SB : Ob) : Option (Int32) :=
  bd (f1_mostLikely SH SB) fun r_1 =>
  some r_1
def f11_odds_27 (z0 : Int32) (SX : Ob) (SH : Ob) (SB : Ob) : Option (Int32) :=
  some z0
def f11_odds (x1 : Int32) (SX : Ob) (SH : Ob) (SB : Ob) : Option (Int32) :=
  bd (f4_hasGuest x1 SH) fun r_1 =>
  if r_1 = 0 then
    (f11_odds_27 (-1) SX SH SB)
  else
    (bd (f1_share x1 SH SB) fun r_4 =>
    f11_odds_27 r_4 SX SH SB)
def f11_errors_31 (SX : Ob) (SH : Ob) (SB : Ob) : Option (Int32) :=
  some (-1)
def f11_errors_56 (z1 : Int32) (z2 : Int32) (z3 : Int32) (z4 : Int32) (SX : Ob) (SH : Ob) (SB : Ob) : Option (Int32) :=
  bd (f1_wrongly z1 z2 z3 z4 SH) fun r_1 =>
  some r_1
def f11_errors (x1 : Int32) (x2 : Int32) (x3 : Int32) (SX : Ob) (SH : Ob) (SB : Ob) : Option (Int32) :=
  bd (f4_hasGuest x1 SH) fun r_1 =>
  if r_1 = 0 then
    (f11_errors_31 SX SH SB)
  else
    (bd (f4_hasSign x2 SH) fun r_4 =>
    if r_4 = 0 then
      (f11_errors_31 SX SH SB)
    else
      (if x3 < 0 then
        (f11_errors_31 SX SH SB)
      else
        (if x3 ≤ 1 then
          (if x3 = 1 then
            (f11_errors_56 (SB.1 0) x1 x2 1 SX SH SB)
          else
            (f11_errors_56 (SB.1 0) x1 x2 0 SX SH SB))
        else
          (f11_errors_31 SX SH SB))))
def f11_hunt_34 (z0 : Int32) (SX : Ob) (SK : Ob) (SH : Ob) (SB : Ob) : Option (Int32 × Ob) :=
  some (z0, SK)
def f11_hunt (x1 : Int32) (SX : Ob) (SK : Ob) (SH : Ob) (SB : Ob) : Option (Int32 × Ob) :=
  if 0 ≤ x1 then
    (bd (f4_guestsIn (SB.1 0) SH) fun r_2 =>
    bd (f1_search r_2 x1 SK SH) fun r_4 =>
    f11_hunt_34 (r_4.1) SX (r_4.2) SH SB)
  else
    (f11_hunt_34 (-1) SX SK SH SB)
def f11_same (x1 : Int32) (SX : Ob) (SH : Ob) (SB : Ob) : Option (Int32) :=
  if x1 = 0 then
    (bd (f4_guestsIn (SB.1 0) SH) fun r_2 =>
    bd (f0_inAllNights r_2 SB) fun r_4 =>
    some r_4)
  else if x1 = 1 then
      (bd (f4_guestsIn (SB.1 0) SH) fun r_7 =>
      bd (f0_firstNightWithNone r_7 SB) fun r_9 =>
      some r_9)
    else 
    (some (-2))
def f11_bill_22 (SX : Ob) (SH : Ob) : Option (Int32) :=
  some (-1)
def f11_bill (x1 : Int32) (x2 : Int32) (SX : Ob) (SH : Ob) : Option (Int32) :=
  if x1 < 0 then
    (f11_bill_22 SX SH)
  else
    (if 9999 < x1 then
      (f11_bill_22 SX SH)
    else
      (bd (f4_hasGuest x2 SH) fun r_3 =>
      if r_3 = 0 then
        (f11_bill_22 SX SH)
      else
        (bd (f5_payment x1 x2 SH) fun r_6 =>
        some r_6)))
def f11_beds_49 (z0 : Int32) (SX : Ob) (SL : Ob) (SH : Ob) : Option (Int32 × Ob) :=
  some (z0, SL)
def f11_beds_19 (x1 : Int32) (SX : Ob) (SL : Ob) (SH : Ob) : Option (Int32 × Ob) :=
  bd (f5_bedAll SL SH) fun r_1 =>
  lt (r_1.1 : Int32) fun x2_3 =>
  if x1 = (-1) then
    (f11_beds_49 x2_3 SX (r_1.2) SH)
  else
    (ck (inb x1 8) <|
    f11_beds_49 ((r_1.2).2.2.1 0 (Int32.toNatClampNeg x1)) SX (r_1.2) SH)
def f11_beds (x1 : Int32) (SX : Ob) (SL : Ob) (SH : Ob) : Option (Int32 × Ob) :=
  if x1 = (-1) then
    (f11_beds_19 x1 SX SL SH)
  else
    (bd (f4_hasGuest x1 SH) fun r_2 =>
    if r_2 = 0 then
      (some ((-2), SL))
    else
      (f11_beds_19 x1 SX SL SH))
def f11_watch_20 (SX : Ob) (SL : Ob) (SH : Ob) : Option (Int32 × Ob) :=
  some ((-1), SL)
def f11_watch (x1 : Int32) (x2 : Int32) (SX : Ob) (SL : Ob) (SH : Ob) : Option (Int32 × Ob) :=
  if x1 < 1 then
    (f11_watch_20 SX SL SH)
  else
    (if 2 < x1 then
      (f11_watch_20 SX SL SH)
    else
      (if x2 < 0 then
        (f11_watch_20 SX SL SH)
      else
        (if x2 < 12 then
          (bd (f5_awake x1 x2 SL SH) fun r_5 =>
          some (r_5.1, r_5.2))
        else
          (f11_watch_20 SX SL SH))))
def f11_years_22 (SX : Ob) (SH : Ob) : Option (Int32) :=
  some (-1)
def f11_years_43 (SX : Ob) (SH : Ob) : Option (Int32) :=
  some (-1)
def f11_years (x1 : Int32) (x2 : Int32) (x3 : Int32) (SX : Ob) (SH : Ob) : Option (Int32) :=
  if x1 < 0 then
    (f11_years_22 SX SH)
  else
    (if 9999 < x1 then
      (f11_years_22 SX SH)
    else
      (if x2 < 1 then
        (f11_years_22 SX SH)
      else
        (if x2 ≤ 100 then
          (if x3 < 0 then
            (f11_years_43 SX SH)
          else
            (if 2 < x3 then
              (f11_years_43 SX SH)
            else
              (if (SH.1 0) = 0 then
                (f11_years_43 SX SH)
              else
                (bd (f6_drawnYears x1 x2 x3 SH) fun r_8 =>
                some r_8))))
        else
          (f11_years_22 SX SH))))
/-! 52.eg2.lean.txt -/
def f11_mark_9 (SX : Ob) (SB : Ob) (SE0 : Ob) (SE1 : Ob) (SE2 : Ob) (SE3 : Ob) : Option (Int32 × Ob × Ob × Ob × Ob × Ob × Ob) :=
  some (0, SX, SB, SE0, SE1, SE2, SE3)
def f11_mark_59 (x1 : Int32) (SX : Ob) (SB : Ob) (SE0 : Ob) (SE1 : Ob) (SE2 : Ob) (SE3 : Ob) : Option (Int32 × Ob × Ob × Ob × Ob × Ob × Ob) :=
  ck (inb x1 4) <|
  ck (isz (SX.2.2.1 8 (Int32.toNatClampNeg x1))) (some (SX.2.2.1 8 (Int32.toNatClampNeg x1), SX, SB, SE0, SE1, SE2, SE3))
def f11_mark (x1 : Int32) (x2 : Int32) (SX : Ob) (SB : Ob) (SE0 : Ob) (SE1 : Ob) (SE2 : Ob) (SE3 : Ob) : Option (Int32 × Ob × Ob × Ob × Ob × Ob × Ob) :=
  if x1 < 0 then
    (f11_mark_9 SX SB SE0 SE1 SE2 SE3)
  else
    (if x1 < 4 then
      (if x2 = 0 then
        (ck (inb x1 4) <|
        if x1 = 0 then
          (bd (f0_copy SE0 SB) fun r_21 =>
          ck (inb x1 4) <|
          lt (oA SX 8 (Int32.toNatClampNeg x1) (vp_nar .boolean 1) : Ob) fun SX_24 =>
          some (1, SX_24, SB, r_21, SE1, SE2, SE3))
        else if x1 = 1 then
            (bd (f0_copy SE1 SB) fun r_26 =>
            ck (inb x1 4) <|
            lt (oA SX 8 (Int32.toNatClampNeg x1) (vp_nar .boolean 1) : Ob) fun SX_29 =>
            some (1, SX_29, SB, SE0, r_26, SE2, SE3))
          else if x1 = 2 then
              (bd (f0_copy SE2 SB) fun r_31 =>
              ck (inb x1 4) <|
              lt (oA SX 8 (Int32.toNatClampNeg x1) (vp_nar .boolean 1) : Ob) fun SX_34 =>
              some (1, SX_34, SB, SE0, SE1, r_31, SE3))
            else 
          (bd (f0_copy SE3 SB) fun r_36 =>
              ck (inb x1 4) <|
              lt (oA SX 8 (Int32.toNatClampNeg x1) (vp_nar .boolean 1) : Ob) fun SX_39 =>
              some (1, SX_39, SB, SE0, SE1, SE2, r_36)))
      else
        (ck (inb x1 4) <|
        if (SX.2.2.1 8 (Int32.toNatClampNeg x1)) = 0 then
          (f11_mark_59 x1 SX SB SE0 SE1 SE2 SE3)
        else
          (ck (inb x1 4) <|
          if x1 = 0 then
            (bd (f0_copy SB SE0) fun r_8 =>
            f11_mark_59 x1 SX r_8 SE0 SE1 SE2 SE3)
          else if x1 = 1 then
              (bd (f0_copy SB SE1) fun r_11 =>
              f11_mark_59 x1 SX r_11 SE0 SE1 SE2 SE3)
            else if x1 = 2 then
                (bd (f0_copy SB SE2) fun r_14 =>
                f11_mark_59 x1 SX r_14 SE0 SE1 SE2 SE3)
              else 
            (bd (f0_copy SB SE3) fun r_17 =>
                f11_mark_59 x1 SX r_17 SE0 SE1 SE2 SE3))))
    else
      (f11_mark_9 SX SB SE0 SE1 SE2 SE3))
def f11_count (x1 : Int32) (SX : Ob) (ST : Ob) (SH : Ob) (SB : Ob) (SP : Ob) : Option (Int32) :=
  if x1 = 0 then
    (some (SH.1 0))
  else if x1 = 1 then
      (some (SH.1 8))
    else if x1 = 2 then
        (bd (fj6_bitCount (SB.1 0)) fun r_4 =>
        some r_4)
      else if x1 = 3 then
          (some (SB.1 1))
        else if x1 = 4 then
            (some (SP.1 0))
          else if x1 = 5 then
              (some (SB.1 3))
            else if x1 = 6 then
                (some (SB.1 6))
              else if x1 = 7 then
                  (some (ST.1 2))
                else 
    (some (-1))
/-! 53.eg3.lean.txt -/
def sw (r : Int32) (x y : Nat → Nat) : Nat → Nat := if r = 0 then x else y
def zz (i : Int32) : Bool := decide (i = 0)
def f11_inn_58 : Nat → Int32 → Int32 → Ob → Ob → Ob → Ob → Ob → Ob → Ob → Ob → Ob → Option (Int32 × Ob × Ob × Ob × Ob × Ob × Ob × Ob × Ob)
  | 0, _, _, _, _, _, _, _, _, _, _, _ => none
  | n + 1, x1, x3, SX, SR, SG, ST, SC, SH, SJ, SB, SP => if 4 ≤ x3 then
    (ck (zz x1) (some (x1, SX, SR, SG, ST, SC, SJ, SB, SP)))
  else
    (ck (inb x3 4) <|
    lt (oA SX 8 (Int32.toNatClampNeg x3) (vp_nar .boolean 0) : Ob) fun SX_3 =>
    lt (x3 + 1 : Int32) fun x3_4 =>
    f11_inn_58 n x1 x3_4 SX_3 SR SG ST SC SH SJ SB SP)
def f11_inn (SX : Ob) (SR : Ob) (SG : Ob) (ST : Ob) (SC : Ob) (SH : Ob) (SJ : Ob) (SB : Ob) (SP : Ob) : Option (Int32 × Ob × Ob × Ob × Ob × Ob × Ob × Ob × Ob) :=
  bd (f9_readInn SR SG ST SC SJ) fun r_1 =>
  lt (r_1.1 : Int32) fun x1_3 =>
  if x1_3 = 0 then
    (lt (oI SP 0 0 : Ob) fun SP_5 =>
    bd (f4_all (r_1.2.2.2.2.2)) fun r_6 =>
    bd (f0_open r_6 SB) fun r_8 =>
    f11_inn_58 FU x1_3 0 SX (r_1.2.1) (r_1.2.2.1) (r_1.2.2.2.1) (r_1.2.2.2.2.1) SH (r_1.2.2.2.2.2) r_8 SP_5)
  else
    (ck (nz x1_3) (some (x1_3, SX, r_1.2.1, r_1.2.2.1, r_1.2.2.2.1, r_1.2.2.2.2.1, r_1.2.2.2.2.2, SB, SP)))
def f11_morning (SX : Ob) (SR : Ob) (SG : Ob) (ST : Ob) (SC : Ob) (SH : Ob) (SU : Ob) : Option (Int32 × Ob × Ob × Ob × Ob × Ob) :=
  bd (f9_readMorning SR SG ST SC SH SU) fun r_1 =>
  lt (r_1.1 : Int32) fun x1_3 =>
  if x1_3 = 0 then
    (ck (zz x1_3) (some (x1_3, SX, r_1.2.1, r_1.2.2.1, r_1.2.2.2.1, r_1.2.2.2.2)))
  else
    (ck (nz x1_3) (some (x1_3, SX, r_1.2.1, r_1.2.2.1, r_1.2.2.2.1, r_1.2.2.2.2)))
/-! 62.newt.lean.txt -/
def fzj3_checkIndex_9 : Option (Int32) :=
  none
def fzj3_checkIndex (x0 : Int32) (x1 : Int32) : Option (Int32) :=
  if x0 < 0 then
    (fzj3_checkIndex_9 )
  else
    (if x0 < x1 then
      (some x0)
    else
      (fzj3_checkIndex_9 ))
def fyj3_checkIndex_9 : Option (Int32) :=
  none
def fyj3_checkIndex (x0 : Int32) (x1 : Int32) : Option (Int32) :=
  if x0 < 0 then
    (fyj3_checkIndex_9 )
  else
    (if x0 < x1 then
      (some x0)
    else
      (fyj3_checkIndex_9 ))
def fzj0_checkIndex_df160 (x0 : Int32) (x1 : Int32) : Option (Unit) :=
  bd (fzj3_checkIndex x0 x1) fun r_1 =>
    some ()
def fzj1_charAt_3b067 (x1 : Int32) : Option (Int32) :=
  bd (fzj0_checkIndex_df160 x1 166) fun r_1 =>
  ck (inb x1 166) <|
  ck (isc (((Int32.toUInt32 (((sBy.getD 0 []).getD (Int32.toNatClampNeg x1) 0) &&& 255)) % 65536).toInt32)) (some (((Int32.toUInt32 (((sBy.getD 0 []).getD (Int32.toNatClampNeg x1) 0) &&& 255)) % 65536).toInt32))
def fzj0_isLatin1_aae02_18 (z0 : Int32) : Option (Int32) :=
  ck (isz z0) (some z0)
def fzj0_isLatin1_aae02_17 : Option (Int32) :=
  fzj0_isLatin1_aae02_18 0
def fzj0_isLatin1_aae02 : Option (Int32) :=
  if (1 : Int32) = 0 then
    (fzj0_isLatin1_aae02_17 )
  else
    (if (0 : Int32) = 0 then
      (fzj0_isLatin1_aae02_18 1)
    else
      (fzj0_isLatin1_aae02_17 ))
def fzj0_coder_7d493_14 (z0 : Int32) : Option (Int32) :=
  ck (isb z0) (some z0)
def fzj0_coder_7d493 : Option (Int32) :=
  if (1 : Int32) = 0 then
    (fzj0_coder_7d493_14 1)
  else
    (fzj0_coder_7d493_14 0)
def fzj0_length_8abf5 : Option (Int32) :=
  bd (fzj0_coder_7d493) fun r_1 =>
  some (166 >>> (r_1 &&& 31))
def fzj0_charAt_5068e (x1 : Int32) : Option (Int32) :=
  bd (fzj0_isLatin1_aae02) fun r_1 =>
  if r_1 = 0 then
    (none)
  else
    (bd (fzj1_charAt_3b067 x1) fun r_4 =>
    ck (isc r_4) (some r_4))
def f10_init_84 (k28 : Int32 → Int64 → Int32 → Ob → Option (Ob)) (x1 : Int32) (x2 : Int64) (x4 : Int32) (ST : Ob) : Option (Ob) :=
  lt (x4 + 1 : Int32) fun x4_1 =>
  k28 x1 x2 x4_1 ST
def f10_init_90 (ST : Ob) : Option (Ob) :=
  some ST
def f10_init_28 : Nat → Int32 → Int64 → Int32 → Ob → Option (Ob)
  | 0, _, _, _, _ => none
  | n + 1, x1, x2, x4, ST => bd (fzj0_length_8abf5) fun r_1 =>
  if r_1 ≤ x4 then
    (f10_init_90 ST)
  else
    (if 32 ≤ x1 then
      (f10_init_90 ST)
    else
      (bd (fzj0_charAt_5068e x4) fun r_5 =>
      if r_5 = 32 then
        (ck (inb x1 32) <|
        lt (oJ ST 1 (Int32.toNatClampNeg x1) x2 : Ob) fun ST_10 =>
        lt (x1 + 1 : Int32) fun x1_11 =>
        f10_init_84 (f10_init_28 n) x1_11 0 x4 ST_10)
      else
        (lt ((x2 <<< (Int32.toInt64 8 &&& 63)) ||| (Int32.toInt64 r_5) : Int64) fun x2_8 =>
        f10_init_84 (f10_init_28 n) x1 x2_8 x4 ST)))
