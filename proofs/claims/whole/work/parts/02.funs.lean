/-! laid by program (split.py): functions of the methods -/
/-! 30.j0.lean.txt -/
def fj6_bitCount (x0 : Int32) : Option (Int32) :=
  lt (x0 - ((ush x0 1) &&& 1431655765) : Int32) fun x0_1 =>
  lt ((x0_1 &&& 858993459) + ((ush x0_1 2) &&& 858993459) : Int32) fun x0_2 =>
  lt ((x0_2 + (ush x0_2 4)) &&& 252645135 : Int32) fun x0_3 =>
  lt (x0_3 + (ush x0_3 8) : Int32) fun x0_4 =>
  lt (x0_4 + (ush x0_4 16) : Int32) fun x0_5 =>
  some (x0_5 &&& 63)
def fj6_numberOfTrailingZeros_74 (x0 : Int32) (x1 : Int32) : Option (Int32) :=
  some (x1 + (ush x0 1))
def fj6_numberOfTrailingZeros_62 (x0 : Int32) (x1 : Int32) : Option (Int32) :=
  if x0 ≤ 4 then
    (fj6_numberOfTrailingZeros_74 x0 x1)
  else
    (lt (x1 + 2 : Int32) fun x1_2 =>
    lt (ush x0 2 : Int32) fun x0_3 =>
    fj6_numberOfTrailingZeros_74 x0_3 x1_2)
def fj6_numberOfTrailingZeros_49 (x0 : Int32) (x1 : Int32) : Option (Int32) :=
  if x0 ≤ 16 then
    (fj6_numberOfTrailingZeros_62 x0 x1)
  else
    (lt (x1 + 4 : Int32) fun x1_2 =>
    lt (ush x0 4 : Int32) fun x0_3 =>
    fj6_numberOfTrailingZeros_62 x0_3 x1_2)
def fj6_numberOfTrailingZeros_34 (x0 : Int32) (x1 : Int32) : Option (Int32) :=
  if x0 ≤ 256 then
    (fj6_numberOfTrailingZeros_49 x0 x1)
  else
    (lt (x1 + 8 : Int32) fun x1_2 =>
    lt (ush x0 8 : Int32) fun x0_3 =>
    fj6_numberOfTrailingZeros_49 x0_3 x1_2)
def fj6_numberOfTrailingZeros (x0 : Int32) : Option (Int32) :=
  lt ((x0 ^^^ (-1)) &&& (x0 - 1) : Int32) fun x0_1 =>
  if 0 < x0_1 then
    (if x0_1 ≤ 65536 then
      (fj6_numberOfTrailingZeros_34 x0_1 1)
    else
      (lt (1 + 16 : Int32) fun x1_4 =>
      lt (ush x0_1 16 : Int32) fun x0_5 =>
      fj6_numberOfTrailingZeros_34 x0_5 x1_4))
  else
    (some (x0_1 &&& 32))
/-! 31.book.lean.txt -/
def f0_open (x1 : Int32) (SB : Ob) : Option (Ob) :=
  lt (oI SB 0 x1 : Ob) fun SB_1 =>
  lt (oI SB_1 1 0 : Ob) fun SB_2 =>
  lt (oI SB_2 3 0 : Ob) fun SB_3 =>
  lt (oI SB_3 6 0 : Ob) fun SB_4 =>
  some SB_4
def f0_copy_52 : Nat → Int32 → Ob → Ob → Option (Ob)
  | 0, _, _, _ => none
  | n + 1, x2, SB, SO => if 8 ≤ x2 then
    (some SB)
  else
    (ck (inb x2 8) <|
    ck (inb x2 8) <|
    lt (oA SB 4 (Int32.toNatClampNeg x2) (SO.2.2.1 4 (Int32.toNatClampNeg x2)) : Ob) fun SB_4 =>
    ck (inb x2 8) <|
    ck (inb x2 8) <|
    lt (oA SB_4 5 (Int32.toNatClampNeg x2) (vp_nar .boolean (SO.2.2.1 5 (Int32.toNatClampNeg x2))) : Ob) fun SB_7 =>
    lt (x2 + 1 : Int32) fun x2_8 =>
    f0_copy_52 n x2_8 SB_7 SO)
def f0_copy_18 : Nat → Int32 → Ob → Ob → Option (Ob)
  | 0, _, _, _ => none
  | n + 1, x2, SB, SO => if 10 ≤ x2 then
    (lt (oI SB 3 (SO.1 3) : Ob) fun SB_2 =>
    f0_copy_52 FU 0 SB_2 SO)
  else
    (ck (inb x2 10) <|
    ck (inb x2 10) <|
    lt (oA SB 2 (Int32.toNatClampNeg x2) (SO.2.2.1 2 (Int32.toNatClampNeg x2)) : Ob) fun SB_5 =>
    lt (x2 + 1 : Int32) fun x2_6 =>
    f0_copy_18 n x2_6 SB_5 SO)
def f0_copy (SB : Ob) (SO : Ob) : Option (Ob) :=
  bd (f0_open (SO.1 0) SB) fun r_1 =>
  lt (oI r_1 1 (SO.1 1) : Ob) fun SB_3 =>
  f0_copy_18 FU 0 SB_3 SO
def f0_remember_57 (SB : Ob) : Option (Ob) :=
  ck (inb (SB.1 6) 16) <|
  lt (oA SB 7 (Int32.toNatClampNeg (SB.1 6)) (SB.1 0) : Ob) fun SB_2 =>
  ck (inb (SB_2.1 6) 16) <|
  lt (oA SB_2 8 (Int32.toNatClampNeg (SB_2.1 6)) (SB_2.1 1) : Ob) fun SB_4 =>
  lt (oI SB_4 6 ((SB_4.1 6) + 1) : Ob) fun SB_5 =>
  some SB_5
def f0_remember_11 : Nat → Int32 → Ob → Option (Ob)
  | 0, _, _ => none
  | n + 1, x1, SB => if 16 ≤ x1 then
    (lt (oI SB 6 15 : Ob) fun SB_2 =>
    f0_remember_57 SB_2)
  else
    (ck (inb x1 16) <|
    ck (inb (x1 - 1) 16) <|
    lt (oA SB 7 (Int32.toNatClampNeg (x1 - 1)) (SB.2.2.1 7 (Int32.toNatClampNeg x1)) : Ob) fun SB_5 =>
    ck (inb x1 16) <|
    ck (inb (x1 - 1) 16) <|
    lt (oA SB_5 8 (Int32.toNatClampNeg (x1 - 1)) (SB_5.2.2.1 8 (Int32.toNatClampNeg x1)) : Ob) fun SB_8 =>
    lt (x1 + 1 : Int32) fun x1_9 =>
    f0_remember_11 n x1_9 SB_8)
def f0_remember (SB : Ob) : Option (Ob) :=
  if (SB.1 6) < 16 then
    (f0_remember_57 SB)
  else
    (f0_remember_11 FU 1 SB)
def f0_narrow (x1 : Int32) (SB : Ob) : Option (Int32 × Ob) :=
  lt ((SB.1 0) &&& x1 : Int32) fun x2_1 =>
  if x2_1 = 0 then
    (some (0, SB))
  else
    (bd (f0_remember SB) fun r_3 =>
    lt (oI r_3 0 x2_1 : Ob) fun SB_5 =>
    some (1, SB_5))
def f0_endNight_38 (SB : Ob) : Option (Ob) :=
  some SB
def f0_endNight (x1 : Int32) (x2 : Int32) (SB : Ob) : Option (Ob) :=
  if 10 ≤ (SB.1 1) then
    (f0_endNight_38 SB)
  else
    (bd (f0_remember SB) fun r_2 =>
    ck (inb (r_2.1 1) 10) <|
    lt (oA r_2 2 (Int32.toNatClampNeg (r_2.1 1)) x1 : Ob) fun SB_5 =>
    lt (oI SB_5 1 ((SB_5.1 1) + 1) : Ob) fun SB_6 =>
    lt (oI SB_6 0 x2 : Ob) fun SB_7 =>
    f0_endNight_38 SB_7)
def f0_stepBack (SB : Ob) : Option (Int32 × Ob) :=
  if 0 < (SB.1 6) then
    (lt (oI SB 6 ((SB.1 6) - 1) : Ob) fun SB_2 =>
    ck (inb (SB_2.1 6) 16) <|
    lt (oI SB_2 0 (SB_2.2.2.1 7 (Int32.toNatClampNeg (SB_2.1 6))) : Ob) fun SB_4 =>
    ck (inb (SB_4.1 6) 16) <|
    lt (oI SB_4 1 (SB_4.2.2.1 8 (Int32.toNatClampNeg (SB_4.1 6))) : Ob) fun SB_6 =>
    some (1, SB_6))
  else
    (some (0, SB))
def f0_hearAlso (x1 : Int32) (x2 : Int32) (SB : Ob) : Option (Int32 × Ob) :=
  if (SB.1 3) < 8 then
    (ck (inb (SB.1 3) 8) <|
    lt (oA SB 4 (Int32.toNatClampNeg (SB.1 3)) x1 : Ob) fun SB_3 =>
    ck (inb (SB_3.1 3) 8) <|
    lt (oA SB_3 5 (Int32.toNatClampNeg (SB_3.1 3)) (vp_nar .boolean x2) : Ob) fun SB_5 =>
    lt (oI SB_5 3 ((SB_5.1 3) + 1) : Ob) fun SB_6 =>
    some (1, SB_6))
  else
    (some (0, SB))
def f0_inAllNights_4 : Nat → Int32 → Int32 → Ob → Option (Int32)
  | 0, _, _, _ => none
  | n + 1, x2, x3, SB => if (SB.1 1) ≤ x3 then
    (some x2)
  else
    (ck (inb x3 10) <|
    lt (x2 &&& (SB.2.2.1 2 (Int32.toNatClampNeg x3)) : Int32) fun x2_3 =>
    lt (x3 + 1 : Int32) fun x3_4 =>
    f0_inAllNights_4 n x2_3 x3_4 SB)
def f0_inAllNights (x1 : Int32) (SB : Ob) : Option (Int32) :=
  f0_inAllNights_4 FU x1 0 SB
def f0_firstNightWithNone_49 (z0 : Int32) (SB : Ob) : Option (Int32) :=
  some z0
def f0_firstNightWithNone_6 : Nat → Int32 → Int32 → Int32 → Ob → Option (Int32)
  | 0, _, _, _, _ => none
  | n + 1, x1, x2, x3, SB => if (SB.1 1) ≤ x3 then
    (if (x2 &&& x1) = 0 then
      (f0_firstNightWithNone_49 (SB.1 1) SB)
    else
      (f0_firstNightWithNone_49 (-1) SB))
  else
    (ck (inb x3 10) <|
    lt (x2 &&& (SB.2.2.1 2 (Int32.toNatClampNeg x3)) : Int32) fun x2_4 =>
    if x2_4 = 0 then
      (some x3)
    else
      (lt (x3 + 1 : Int32) fun x3_6 =>
      f0_firstNightWithNone_6 n x1 x2_4 x3_6 SB))
def f0_firstNightWithNone (x1 : Int32) (SB : Ob) : Option (Int32) :=
  f0_firstNightWithNone_6 FU x1 255 0 SB
/-! 32.inn.lean.txt -/
def f4_clear_12 : Nat → Int32 → Ob → Option (Ob)
  | 0, _, _ => none
  | n + 1, x1, SI => if 32 ≤ x1 then
    (some SI)
  else
    (ck (inb x1 32) <|
    lt (oA SI 12 (Int32.toNatClampNeg x1) 0 : Ob) fun SI_3 =>
    lt (x1 + 1 : Int32) fun x1_4 =>
    f4_clear_12 n x1_4 SI_3)
def f4_clear (SI : Ob) : Option (Ob) :=
  lt (oI SI 0 0 : Ob) fun SI_1 =>
  lt (oI SI_1 8 0 : Ob) fun SI_2 =>
  f4_clear_12 FU 0 SI_2
def f4_addGuest_81 (SI : Ob) : Option (Ob) :=
  some SI
def f4_addGuest (x1 : Int64) (x3 : Int32) (x4 : Int32) (x5 : Int32) (SI : Ob) : Option (Ob) :=
  if 8 ≤ (SI.1 0) then
    (f4_addGuest_81 SI)
  else
    (ck (inb (SI.1 0) 8) <|
    lt (oJ SI 1 (Int32.toNatClampNeg (SI.1 0)) x1 : Ob) fun SI_3 =>
    ck (inb (SI_3.1 0) 8) <|
    lt (oA SI_3 2 (Int32.toNatClampNeg (SI_3.1 0)) x3 : Ob) fun SI_5 =>
    ck (inb (SI_5.1 0) 8) <|
    lt (oA SI_5 3 (Int32.toNatClampNeg (SI_5.1 0)) x4 : Ob) fun SI_7 =>
    ck (inb (SI_7.1 0) 8) <|
    lt (oA SI_7 4 (Int32.toNatClampNeg (SI_7.1 0)) x5 : Ob) fun SI_9 =>
    ck (inb (SI_9.1 0) 8) <|
    lt (oA SI_9 5 (Int32.toNatClampNeg (SI_9.1 0)) 0 : Ob) fun SI_11 =>
    ck (inb (SI_11.1 0) 8) <|
    lt (oA SI_11 6 (Int32.toNatClampNeg (SI_11.1 0)) 0 : Ob) fun SI_13 =>
    lt (oI SI_13 0 ((SI_13.1 0) + 1) : Ob) fun SI_14 =>
    f4_addGuest_81 SI_14)
def f4_addSign_49 (SI : Ob) : Option (Ob) :=
  some SI
def f4_addSign (x1 : Int64) (x3 : Int32) (SI : Ob) : Option (Ob) :=
  if 6 ≤ (SI.1 8) then
    (f4_addSign_49 SI)
  else
    (ck (inb (SI.1 8) 6) <|
    lt (oJ SI 9 (Int32.toNatClampNeg (SI.1 8)) x1 : Ob) fun SI_3 =>
    ck (inb (SI_3.1 8) 6) <|
    lt (oA SI_3 10 (Int32.toNatClampNeg (SI_3.1 8)) x3 : Ob) fun SI_5 =>
    ck (inb (SI_5.1 8) 6) <|
    lt (oA SI_5 11 (Int32.toNatClampNeg (SI_5.1 8)) 0 : Ob) fun SI_7 =>
    lt (oI SI_7 8 ((SI_7.1 8) + 1) : Ob) fun SI_8 =>
    f4_addSign_49 SI_8)
def f4_letShow_9 : Nat → Int32 → Int32 → Int32 → Ob → Option (Ob)
  | 0, _, _, _, _ => none
  | n + 1, x1, x2, x3, SI => if 32 ≤ x3 then
    (some SI)
  else
    (ck (inb x3 32) <|
    ck (inb x3 32) <|
    lt (oA SI 12 (Int32.toNatClampNeg x3) ((SI.2.2.1 12 (Int32.toNatClampNeg x3)) ||| (((ush x2 x3) &&& 1) <<< (x1 &&& 31))) : Ob) fun SI_4 =>
    lt (x3 + 1 : Int32) fun x3_5 =>
    f4_letShow_9 n x1 x2 x3_5 SI_4)
def f4_letShow (x1 : Int32) (x2 : Int32) (SI : Ob) : Option (Ob) :=
  ck (inb x1 6) <|
  lt (oA SI 11 (Int32.toNatClampNeg x1) x2 : Ob) fun SI_2 =>
  f4_letShow_9 FU x1 x2 0 SI_2
def f4_guestNamed_2 : Nat → Int64 → Int32 → Ob → Option (Int32)
  | 0, _, _, _ => none
  | n + 1, x1, x3, SI => if (SI.1 0) ≤ x3 then
    (some (-1))
  else
    (ck (inb x3 8) <|
    if (lg_cmp (SI.2.2.2 1 (Int32.toNatClampNeg x3)) x1) = 0 then
      (some x3)
    else
      (lt (x3 + 1 : Int32) fun x3_4 =>
      f4_guestNamed_2 n x1 x3_4 SI))
def f4_guestNamed (x1 : Int64) (SI : Ob) : Option (Int32) :=
  f4_guestNamed_2 FU x1 0 SI
def f4_signNamed_2 : Nat → Int64 → Int32 → Ob → Option (Int32)
  | 0, _, _, _ => none
  | n + 1, x1, x3, SI => if (SI.1 8) ≤ x3 then
    (some (-1))
  else
    (ck (inb x3 6) <|
    if (lg_cmp (SI.2.2.2 9 (Int32.toNatClampNeg x3)) x1) = 0 then
      (some x3)
    else
      (lt (x3 + 1 : Int32) fun x3_4 =>
      f4_signNamed_2 n x1 x3_4 SI))
def f4_signNamed (x1 : Int64) (SI : Ob) : Option (Int32) :=
  f4_signNamed_2 FU x1 0 SI
def f4_hasGuest_17 (z0 : Int32) (SI : Ob) : Option (Int32) :=
  ck (isz z0) (some z0)
def f4_hasGuest_16 (SI : Ob) : Option (Int32) :=
  f4_hasGuest_17 0 SI
def f4_hasGuest (x1 : Int32) (SI : Ob) : Option (Int32) :=
  if x1 < 0 then
    (f4_hasGuest_16 SI)
  else
    (if (SI.1 0) ≤ x1 then
      (f4_hasGuest_16 SI)
    else
      (f4_hasGuest_17 1 SI))
def f4_hasSign_17 (z0 : Int32) (SI : Ob) : Option (Int32) :=
  ck (isz z0) (some z0)
def f4_hasSign_16 (SI : Ob) : Option (Int32) :=
  f4_hasSign_17 0 SI
def f4_hasSign (x1 : Int32) (SI : Ob) : Option (Int32) :=
  if x1 < 0 then
    (f4_hasSign_16 SI)
  else
    (if (SI.1 8) ≤ x1 then
      (f4_hasSign_16 SI)
    else
      (f4_hasSign_17 1 SI))
def f4_hasWorld_19 (z0 : Int32) (SI : Ob) : Option (Int32) :=
  ck (isz z0) (some z0)
def f4_hasWorld_18 (SI : Ob) : Option (Int32) :=
  f4_hasWorld_19 0 SI
def f4_hasWorld (x1 : Int32) (SI : Ob) : Option (Int32) :=
  if x1 < 0 then
    (f4_hasWorld_18 SI)
  else
    (if ((SI.1 0) * 4) ≤ x1 then
      (f4_hasWorld_18 SI)
    else
      (f4_hasWorld_19 1 SI))
def f4_all_22 (z0 : Int32) (SI : Ob) : Option (Int32) :=
  some z0
def f4_all (SI : Ob) : Option (Int32) :=
  if (SI.1 0) = 0 then
    (f4_all_22 0 SI)
  else
    (f4_all_22 (ush (-1) (32 - ((SI.1 0) * 4))) SI)
def f4_worldsOf (x1 : Int32) (SI : Ob) : Option (Int32) :=
  some (15 <<< ((x1 * 4) &&& 31))
def f4_worldsShowing_36 (z0 : Int32) (SI : Ob) : Option (Int32) :=
  some z0
def f4_worldsShowing (x1 : Int32) (x2 : Int32) (SI : Ob) : Option (Int32) :=
  bd (f4_hasSign x1 SI) fun r_1 =>
  if r_1 = 0 then
    (some 0)
  else
    (if x2 = 0 then
      (bd (f4_all SI) fun r_5 =>
      ck (inb x1 6) <|
      f4_worldsShowing_36 (r_5 &&& ((SI.2.2.1 11 (Int32.toNatClampNeg x1)) ^^^ (-1))) SI)
    else
      (ck (inb x1 6) <|
      f4_worldsShowing_36 (SI.2.2.1 11 (Int32.toNatClampNeg x1)) SI))
def f4_guestsIn_28 (k4 : Int32 → Int32 → Int32 → Ob → Option (Int32)) (x1 : Int32) (x2 : Int32) (x3 : Int32) (SI : Ob) : Option (Int32) :=
  lt (x3 + 1 : Int32) fun x3_1 =>
  k4 x1 x2 x3_1 SI
def f4_guestsIn_4 : Nat → Int32 → Int32 → Int32 → Ob → Option (Int32)
  | 0, _, _, _, _ => none
  | n + 1, x1, x2, x3, SI => if (SI.1 0) ≤ x3 then
    (some x2)
  else
    (bd (f4_worldsOf x3 SI) fun r_2 =>
    if (x1 &&& r_2) = 0 then
      (f4_guestsIn_28 (f4_guestsIn_4 n) x1 x2 x3 SI)
    else
      (lt (x2 ||| (1 <<< (x3 &&& 31)) : Int32) fun x2_5 =>
      f4_guestsIn_28 (f4_guestsIn_4 n) x1 x2_5 x3 SI))
def f4_guestsIn (x1 : Int32) (SI : Ob) : Option (Int32) :=
  f4_guestsIn_4 FU x1 0 0 SI
def f4_isAlone_32 (k2 : Int32 → Int32 → Ob → Option (Int32)) (x1 : Int32) (x2 : Int32) (SI : Ob) : Option (Int32) :=
  lt (x2 + 1 : Int32) fun x2_1 =>
  k2 x1 x2_1 SI
def f4_isAlone_2 : Nat → Int32 → Int32 → Ob → Option (Int32)
  | 0, _, _, _ => none
  | n + 1, x1, x2, SI => if (SI.1 0) ≤ x2 then
    (some 1)
  else
    (if x2 = x1 then
      (f4_isAlone_32 (f4_isAlone_2 n) x1 x2 SI)
    else
      (ck (inb x2 8) <|
      ck (inb x1 8) <|
      if (SI.2.2.1 3 (Int32.toNatClampNeg x2)) = (SI.2.2.1 3 (Int32.toNatClampNeg x1)) then
        (some 0)
      else
        (f4_isAlone_32 (f4_isAlone_2 n) x1 x2 SI)))
def f4_isAlone (x1 : Int32) (SI : Ob) : Option (Int32) :=
  f4_isAlone_2 FU x1 0 SI
def f4_isSo_45 (z0 : Int32) (SI : Ob) : Option (Int32) :=
  ck (isz z0) (some z0)
def f4_isSo_62 (z0 : Int32) (SI : Ob) : Option (Int32) :=
  ck (isz z0) (some z0)
def f4_isSo_85 (z0 : Int32) (SI : Ob) : Option (Int32) :=
  ck (isz z0) (some z0)
def f4_isSo (x1 : Int32) (x2 : Int32) (SI : Ob) : Option (Int32) :=
  if x1 = 22 then
    (ck (inb x2 8) <|
    if ((SI.2.2.1 3 (Int32.toNatClampNeg x2)) &&& 1) = 1 then
      (f4_isSo_45 1 SI)
    else
      (f4_isSo_45 0 SI))
  else if x1 = 23 then
      (ck (inb x2 8) <|
      if 6 < (SI.2.2.1 3 (Int32.toNatClampNeg x2)) then
        (f4_isSo_62 0 SI)
      else
        (f4_isSo_62 1 SI))
    else if x1 = 24 then
        (bd (f4_isAlone x2 SI) fun r_8 =>
        ck (isz r_8) (some r_8))
      else 
    (ck (inb x2 8) <|
        if (SI.2.2.1 4 (Int32.toNatClampNeg x2)) < 10 then
          (f4_isSo_85 0 SI)
        else
          (f4_isSo_85 1 SI))
def f4_worldsBy_54 (k29 : Int32 → Int32 → Int32 → Ob → Option (Int32)) (x1 : Int32) (x2 : Int32) (x3 : Int32) (SI : Ob) : Option (Int32) :=
  lt (x3 + 1 : Int32) fun x3_1 =>
  k29 x1 x2 x3_1 SI
def f4_worldsBy_29 : Nat → Int32 → Int32 → Int32 → Ob → Option (Int32)
  | 0, _, _, _, _ => none
  | n + 1, x1, x2, x3, SI => if (SI.1 0) ≤ x3 then
    (some x2)
  else
    (bd (f4_isSo x1 x3 SI) fun r_2 =>
    if r_2 = 0 then
      (f4_worldsBy_54 (f4_worldsBy_29 n) x1 x2 x3 SI)
    else
      (bd (f4_worldsOf x3 SI) fun r_5 =>
      lt (x2 ||| r_5 : Int32) fun x2_7 =>
      f4_worldsBy_54 (f4_worldsBy_29 n) x1 x2_7 x3 SI))
def f4_worldsBy_25 (x1 : Int32) (SI : Ob) : Option (Int32) :=
  f4_worldsBy_29 FU x1 0 0 SI
def f4_worldsBy (x1 : Int32) (SI : Ob) : Option (Int32) :=
  if x1 < 18 then
    (f4_worldsBy_25 x1 SI)
  else
    (if 21 < x1 then
      (f4_worldsBy_25 x1 SI)
    else
      (bd (f4_all SI) fun r_3 =>
      some (r_3 &&& (286331153 <<< ((x1 - 18) &&& 31)))))
def f4_sayable (x1 : Int32) (x2 : Int32) (SI : Ob) : Option (Int32) :=
  bd (f4_hasGuest x1 SI) fun r_1 =>
  if r_1 = 0 then
    (some 0)
  else
    (bd (f4_worldsOf x1 SI) fun r_4 =>
    lt (x2 ^^^ r_4 : Int32) fun x3_6 =>
    ck (inb x1 8) <|
    if (SI.2.2.1 2 (Int32.toNatClampNeg x1)) = 0 then
      (bd (f4_all SI) fun r_9 =>
      some (r_9 &&& x3_6))
    else if (SI.2.2.1 2 (Int32.toNatClampNeg x1)) = 1 then
        (bd (f4_all SI) fun r_12 =>
        some (r_12 &&& x2))
      else if (SI.2.2.1 2 (Int32.toNatClampNeg x1)) = 2 then
          (bd (f4_all SI) fun r_15 =>
          some (r_15 &&& (x3_6 ^^^ (-1))))
        else 
      (bd (f4_all SI) fun r_17 =>
          some r_17))
/-! 33.morn.lean.txt -/
def f7_add_39 (SN : Ob) : Option (Ob) :=
  some SN
def f7_add (x1 : Int32) (x2 : Int32) (SN : Ob) : Option (Ob) :=
  if 24 ≤ (SN.1 0) then
    (f7_add_39 SN)
  else
    (ck (inb (SN.1 0) 24) <|
    lt (oA SN 1 (Int32.toNatClampNeg (SN.1 0)) x1 : Ob) fun SN_3 =>
    ck (inb (SN_3.1 0) 24) <|
    lt (oA SN_3 2 (Int32.toNatClampNeg (SN_3.1 0)) (vp_nar .boolean x2) : Ob) fun SN_5 =>
    lt (oI SN_5 0 ((SN_5.1 0) + 1) : Ob) fun SN_6 =>
    f7_add_39 SN_6)
def f7_behind_32 (z0 : Int32) (SN : Ob) : Option (Int32) :=
  some z0
def f7_behind (x1 : Int32) (x2 : Int32) (x3 : Int32) (SN : Ob) : Option (Int32) :=
  ck (inb x1 24) <|
  if (SN.2.2.1 2 (Int32.toNatClampNeg x1)) = 0 then
    (ck (inb x1 24) <|
    lt (x2 &&& (SN.2.2.1 1 (Int32.toNatClampNeg x1)) : Int32) fun x4_4 =>
    if x4_4 = 0 then
      (f7_behind_32 x2 SN)
    else
      (f7_behind_32 x4_4 SN))
  else
    (some x3)
def f7_firstThatCannotBe_34 (k4 : Int32 → Int32 → Int32 → Ob → Option (Int32)) (x1 : Int32) (x2 : Int32) (x3 : Int32) (SN : Ob) : Option (Int32) :=
  bd (f7_behind x3 x2 x1 SN) fun r_1 =>
  lt (x3 + 1 : Int32) fun x3_3 =>
  k4 x1 r_1 x3_3 SN
def f7_firstThatCannotBe_4 : Nat → Int32 → Int32 → Int32 → Ob → Option (Int32)
  | 0, _, _, _, _ => none
  | n + 1, x1, x2, x3, SN => if (SN.1 0) ≤ x3 then
    (some (-1))
  else
    (ck (inb x3 24) <|
    if (SN.2.2.1 2 (Int32.toNatClampNeg x3)) = 0 then
      (ck (inb x3 24) <|
      if (x2 &&& (SN.2.2.1 1 (Int32.toNatClampNeg x3))) = 0 then
        (some x3)
      else
        (f7_firstThatCannotBe_34 (f7_firstThatCannotBe_4 n) x1 x2 x3 SN))
    else
      (f7_firstThatCannotBe_34 (f7_firstThatCannotBe_4 n) x1 x2 x3 SN))
def f7_firstThatCannotBe (x1 : Int32) (SN : Ob) : Option (Int32) :=
  f7_firstThatCannotBe_4 FU x1 x1 0 SN
def f7_leftAtLast_29 (k5 : Int32 → Int32 → Int32 → Int32 → Ob → Option (Int32)) (x1 : Int32) (x2 : Int32) (x3 : Int32) (x4 : Int32) (SN : Ob) : Option (Int32) :=
  lt (x4 + 1 : Int32) fun x4_1 =>
  k5 x1 x2 x3 x4_1 SN
def f7_leftAtLast_5 : Nat → Int32 → Int32 → Int32 → Int32 → Ob → Option (Int32)
  | 0, _, _, _, _, _ => none
  | n + 1, x1, x2, x3, x4, SN => if (SN.1 0) ≤ x4 then
    (some x3)
  else
    (if x4 = x2 then
      (f7_leftAtLast_29 (f7_leftAtLast_5 n) x1 x2 x3 x4 SN)
    else
      (bd (f7_behind x4 x3 x1 SN) fun r_3 =>
      f7_leftAtLast_29 (f7_leftAtLast_5 n) x1 x2 r_3 x4 SN))
def f7_leftAtLast (x1 : Int32) (x2 : Int32) (SN : Ob) : Option (Int32) :=
  f7_leftAtLast_5 FU x1 x2 x1 0 SN
def f7_needless_39 (k12 : Int32 → Int32 → Int32 → Int32 → Ob → Option (Int32)) (x1 : Int32) (x2 : Int32) (x3 : Int32) (x4 : Int32) (SN : Ob) : Option (Int32) :=
  lt (x4 + 1 : Int32) fun x4_1 =>
  k12 x1 x2 x3 x4_1 SN
def f7_needless_12 : Nat → Int32 → Int32 → Int32 → Int32 → Ob → Option (Int32)
  | 0, _, _, _, _, _ => none
  | n + 1, x1, x2, x3, x4, SN => if (SN.1 0) ≤ x4 then
    (some x3)
  else
    (bd (f7_leftAtLast x1 x4 SN) fun r_2 =>
    if r_2 = x2 then
      (lt (x3 ||| (1 <<< (x4 &&& 31)) : Int32) fun x3_5 =>
      f7_needless_39 (f7_needless_12 n) x1 x2 x3_5 x4 SN)
    else
      (f7_needless_39 (f7_needless_12 n) x1 x2 x3 x4 SN))
def f7_needless (x1 : Int32) (SN : Ob) : Option (Int32) :=
  bd (f7_leftAtLast x1 (-1) SN) fun r_1 =>
  f7_needless_12 FU x1 r_1 0 0 SN
/-! 34.code.lean.txt -/
def f2_put_40 (SC : Ob) : Option (Ob) :=
  some SC
def f2_put (x1 : Int32) (x2 : Int32) (SC : Ob) : Option (Ob) :=
  if 1000 ≤ (SC.1 3) then
    (f2_put_40 SC)
  else
    (ck (inb (SC.1 3) 1000) <|
    lt (oA SC 0 (Int32.toNatClampNeg (SC.1 3)) x1 : Ob) fun SC_3 =>
    ck (inb (SC_3.1 3) 1000) <|
    lt (oA SC_3 1 (Int32.toNatClampNeg (SC_3.1 3)) x2 : Ob) fun SC_5 =>
    lt (oI SC_5 3 ((SC_5.1 3) + 1) : Ob) fun SC_6 =>
    f2_put_40 SC_6)
def f2_pop (SC : Ob) : Option (Int32 × Ob) :=
  if 0 < (SC.1 4) then
    (lt (oI SC 4 ((SC.1 4) - 1) : Ob) fun SC_2 =>
    ck (inb (SC_2.1 4) 64) <|
    some (SC_2.2.2.1 2 (Int32.toNatClampNeg (SC_2.1 4)), SC_2))
  else
    (some (0, SC))
def f2_push_32 (SC : Ob) : Option (Ob) :=
  some SC
def f2_push (x1 : Int32) (SC : Ob) : Option (Ob) :=
  if 64 ≤ (SC.1 4) then
    (f2_push_32 SC)
  else
    (ck (inb (SC.1 4) 64) <|
    lt (oA SC 2 (Int32.toNatClampNeg (SC.1 4)) x1 : Ob) fun SC_3 =>
    lt (oI SC_3 4 ((SC_3.1 4) + 1) : Ob) fun SC_4 =>
    f2_push_32 SC_4)
def f2_worlds_155 (k8 : Int32 → Int32 → Ob → Ob → Option (Int32 × Ob)) (x3 : Int32) (x4 : Int32) (SC : Ob) (SI : Ob) : Option (Int32 × Ob) :=
  lt (x4 + 1 : Int32) fun x4_1 =>
  k8 x3 x4_1 SC SI
def f2_worlds_161 (SC : Ob) (SI : Ob) : Option (Int32 × Ob) :=
  bd (f2_pop SC) fun r_1 =>
  bd (f4_all SI) fun r_3 =>
  some ((r_1.1) &&& r_3, r_1.2)
def f2_worlds_8 : Nat → Int32 → Int32 → Ob → Ob → Option (Int32 × Ob)
  | 0, _, _, _, _ => none
  | n + 1, x3, x4, SC, SI => if x3 ≤ x4 then
    (f2_worlds_161 SC SI)
  else
    (if 1000 ≤ x4 then
      (f2_worlds_161 SC SI)
    else
      (ck (inb x4 1000) <|
      lt (SC.2.2.1 0 (Int32.toNatClampNeg x4) : Int32) fun x5_4 =>
      if x5_4 = 26 then
        (bd (f2_pop SC) fun r_36 =>
        bd (f2_push ((r_36.1) ^^^ (-1)) (r_36.2)) fun r_38 =>
        f2_worlds_155 (f2_worlds_8 n) x3 x4 r_38 SI)
      else
        (if x5_4 = 27 then
          (bd (f2_pop SC) fun r_30 =>
          bd (f2_pop (r_30.2)) fun r_32 =>
          bd (f2_push ((r_30.1) &&& (r_32.1)) (r_32.2)) fun r_34 =>
          f2_worlds_155 (f2_worlds_8 n) x3 x4 r_34 SI)
        else
          (if x5_4 = 28 then
            (bd (f2_pop SC) fun r_24 =>
            bd (f2_pop (r_24.2)) fun r_26 =>
            bd (f2_push ((r_24.1) ||| (r_26.1)) (r_26.2)) fun r_28 =>
            f2_worlds_155 (f2_worlds_8 n) x3 x4 r_28 SI)
          else
            (if x5_4 = 0 then
              (ck (inb x4 1000) <|
              bd (f4_worldsOf (SC.2.2.1 1 (Int32.toNatClampNeg x4)) SI) fun r_20 =>
              bd (f2_push r_20 SC) fun r_22 =>
              f2_worlds_155 (f2_worlds_8 n) x3 x4 r_22 SI)
            else
              (if x5_4 = 3 then
                (ck (inb x4 1000) <|
                bd (f4_worldsShowing (SC.2.2.1 1 (Int32.toNatClampNeg x4)) 1 SI) fun r_15 =>
                bd (f2_push r_15 SC) fun r_17 =>
                f2_worlds_155 (f2_worlds_8 n) x3 x4 r_17 SI)
              else
                (bd (f4_worldsBy x5_4 SI) fun r_10 =>
                bd (f2_push r_10 SC) fun r_12 =>
                f2_worlds_155 (f2_worlds_8 n) x3 x4 r_12 SI)))))))
def f2_worlds (x2 : Int32) (x3 : Int32) (SC : Ob) (SI : Ob) : Option (Int32 × Ob) :=
  lt (oI SC 4 0 : Ob) fun SC_1 =>
  f2_worlds_8 FU x3 x2 SC_1 SI
def f2_joined_82 (z0 : Int32) : Option (Int32) :=
  some z0
def f2_joined_93 (z0 : Int32) : Option (Int32) :=
  some z0
def f2_joined_107 (z0 : Int32) : Option (Int32) :=
  some z0
def f2_joined_106 : Option (Int32) :=
  f2_joined_107 0
def f2_joined_121 (z0 : Int32) : Option (Int32) :=
  some z0
def f2_joined_116 : Option (Int32) :=
  f2_joined_121 1
def f2_joined (x0 : Int32) (x1 : Int32) (x2 : Int32) : Option (Int32) :=
  if x0 = 27 then
    (if x1 = 0 then
      (f2_joined_106 )
    else
      (if x2 = 0 then
        (f2_joined_106 )
      else
        (f2_joined_107 1)))
  else if x0 = 42 then
      (some (x1 * x2))
    else if x0 = 43 then
        (some (x1 + x2))
      else if x0 = 45 then
          (some (x1 - x2))
        else if x0 = 60 then
            (if x2 ≤ x1 then
              (f2_joined_82 0)
            else
              (f2_joined_82 1))
          else if x0 = 61 then
              (if x1 = x2 then
                (f2_joined_93 1)
              else
                (f2_joined_93 0))
            else 
    (if x1 = 0 then
                (if x2 = 0 then
                  (f2_joined_121 0)
                else
                  (f2_joined_116 ))
              else
                (f2_joined_116 ))
def f2_amount_172 (k8 : Int32 → Int32 → Int32 → Ob → Ob → Option (Int32 × Ob)) (x2 : Int32) (x4 : Int32) (x5 : Int32) (SC : Ob) (SI : Ob) : Option (Int32 × Ob) :=
  lt (x5 + 1 : Int32) fun x5_1 =>
  k8 x2 x4 x5_1 SC SI
def f2_amount_140 (k8 : Int32 → Int32 → Int32 → Ob → Ob → Option (Int32 × Ob)) (x2 : Int32) (x4 : Int32) (x5 : Int32) (z1 : Int32) (SC : Ob) (SI : Ob) : Option (Int32 × Ob) :=
  bd (f2_push z1 SC) fun r_1 =>
  f2_amount_172 k8 x2 x4 x5 r_1 SI
def f2_amount_178 (SC : Ob) (SI : Ob) : Option (Int32 × Ob) :=
  bd (f2_pop SC) fun r_1 =>
  some (r_1.1, r_1.2)
def f2_amount_8 : Nat → Int32 → Int32 → Int32 → Ob → Ob → Option (Int32 × Ob)
  | 0, _, _, _, _, _ => none
  | n + 1, x2, x4, x5, SC, SI => if x4 ≤ x5 then
    (f2_amount_178 SC SI)
  else
    (if 1000 ≤ x5 then
      (f2_amount_178 SC SI)
    else
      (ck (inb x5 1000) <|
      if (SC.2.2.1 0 (Int32.toNatClampNeg x5)) = 26 then
        (bd (f2_pop SC) fun r_5 =>
        if (r_5.1) = 0 then
          (f2_amount_140 (f2_amount_8 n) x2 x4 x5 1 (r_5.2) SI)
        else
          (f2_amount_140 (f2_amount_8 n) x2 x4 x5 0 (r_5.2) SI))
      else if (SC.2.2.1 0 (Int32.toNatClampNeg x5)) = 29 then
          (ck (inb x2 8) <|
          bd (f2_push (SI.2.2.1 3 (Int32.toNatClampNeg x2)) SC) fun r_10 =>
          f2_amount_172 (f2_amount_8 n) x2 x4 x5 r_10 SI)
        else if (SC.2.2.1 0 (Int32.toNatClampNeg x5)) = 30 then
            (ck (inb x2 8) <|
            bd (f2_push (SI.2.2.1 4 (Int32.toNatClampNeg x2)) SC) fun r_14 =>
            f2_amount_172 (f2_amount_8 n) x2 x4 x5 r_14 SI)
          else if (SC.2.2.1 0 (Int32.toNatClampNeg x5)) = 31 then
              (bd (f2_push (SI.1 0) SC) fun r_17 =>
              f2_amount_172 (f2_amount_8 n) x2 x4 x5 r_17 SI)
            else if (SC.2.2.1 0 (Int32.toNatClampNeg x5)) = 33 then
                (ck (inb x5 1000) <|
                bd (f2_push (SC.2.2.1 1 (Int32.toNatClampNeg x5)) SC) fun r_21 =>
                f2_amount_172 (f2_amount_8 n) x2 x4 x5 r_21 SI)
              else 
        (bd (f2_pop SC) fun r_56 =>
                      lt (r_56.1 : Int32) fun x6_58 =>
                      ck (inb x5 1000) <|
                      bd (f2_pop (r_56.2)) fun r_60 =>
                      bd (f2_joined ((r_56.2).2.2.1 0 (Int32.toNatClampNeg x5)) (r_60.1) x6_58) fun r_62 =>
                      bd (f2_push r_62 (r_60.2)) fun r_64 =>
                      f2_amount_172 (f2_amount_8 n) x2 x4 x5 r_64 SI)))
def f2_amount (x2 : Int32) (x3 : Int32) (x4 : Int32) (SC : Ob) (SI : Ob) : Option (Int32 × Ob) :=
  lt (oI SC 4 0 : Ob) fun SC_1 =>
  f2_amount_8 FU x2 x4 x3 SC_1 SI
/-! 35.ques.lean.txt -/
def f8_best_110 (k14 : Int32 → Int32 → Int32 → Int32 → Ob → Option (Int32)) (k26 : Int32 → Int32 → Int32 → Int32 → Int32 → Ob → Option (Int32)) (x1 : Int32) (x2 : Int32) (x3 : Int32) (x4 : Int32) (x5 : Int32) (SI : Ob) : Option (Int32) :=
  lt (x5 + 1 : Int32) fun x5_1 =>
  k26 x1 x2 x3 x4 x5_1 SI
def f8_best_26 (k14 : Int32 → Int32 → Int32 → Int32 → Ob → Option (Int32)) : Nat → Int32 → Int32 → Int32 → Int32 → Int32 → Ob → Option (Int32)
  | 0, _, _, _, _, _, _ => none
  | n + 1, x1, x2, x3, x4, x5, SI => if (SI.1 0) ≤ x5 then
    (lt (x4 + 1 : Int32) fun x4_2 =>
    k14 x1 x2 x3 x4_2 SI)
  else
    (bd (f4_worldsOf x5 SI) fun r_3 =>
    bd (f4_sayable x4 r_3 SI) fun r_5 =>
    bd (f4_guestsIn (x1 &&& r_5) SI) fun r_7 =>
    bd (fj6_bitCount r_7) fun r_9 =>
    bd (f4_sayable x4 (r_3 ^^^ (-1)) SI) fun r_11 =>
    bd (f4_guestsIn (x1 &&& r_11) SI) fun r_13 =>
    bd (fj6_bitCount r_13) fun r_15 =>
    lt (if r_9 < r_15 then r_15 else r_9 : Int32) fun x9_17 =>
    if x2 ≤ x9_17 then
      (f8_best_110 k14 (f8_best_26 k14 n) x1 x2 x3 x4 x5 SI)
    else
      (lt ((x4 * 8) + x5 : Int32) fun x3_19 =>
      f8_best_110 k14 (f8_best_26 k14 n) x1 x9_17 x3_19 x4 x5 SI))
def f8_best_14 : Nat → Int32 → Int32 → Int32 → Int32 → Ob → Option (Int32)
  | 0, _, _, _, _, _ => none
  | n + 1, x1, x2, x3, x4, SI => if (SI.1 0) ≤ x4 then
    (some x3)
  else
    (f8_best_26 (f8_best_14 n) FU x1 x2 x3 x4 0 SI)
def f8_best (x1 : Int32) (SI : Ob) : Option (Int32) :=
  bd (f4_guestsIn x1 SI) fun r_1 =>
  bd (fj6_bitCount r_1) fun r_3 =>
  f8_best_14 FU x1 r_3 (-1) 0 SI
def f8_isNew_2 : Nat → Int32 → Int32 → Int32 → Ob → Option (Int32)
  | 0, _, _, _, _ => none
  | n + 1, x1, x2, x3, SQ => if x2 ≤ x3 then
    (some 1)
  else
    (ck (inb x3 64) <|
    if (SQ.2.2.1 0 (Int32.toNatClampNeg x3)) = x1 then
      (some 0)
    else
      (lt (x3 + 1 : Int32) fun x3_4 =>
      f8_isNew_2 n x1 x2 x3_4 SQ))
def f8_isNew (x1 : Int32) (x2 : Int32) (SQ : Ob) : Option (Int32) :=
  f8_isNew_2 FU x1 x2 0 SQ
def f8_findParting_114 (k6 : Int32 → Int32 → Int32 → Int32 → Ob → Ob → Option (Int32 × Ob)) (k18 : Int32 → Int32 → Int32 → Int32 → Int32 → Ob → Ob → Option (Int32 × Ob)) (x2 : Int32) (x3 : Int32) (x4 : Int32) (x5 : Int32) (x6 : Int32) (SQ : Ob) (SI : Ob) : Option (Int32 × Ob) :=
  lt (x6 + 1 : Int32) fun x6_1 =>
  k18 x2 x3 x4 x5 x6_1 SQ SI
def f8_findParting_74 (k6 : Int32 → Int32 → Int32 → Int32 → Ob → Ob → Option (Int32 × Ob)) (k18 : Int32 → Int32 → Int32 → Int32 → Int32 → Ob → Ob → Option (Int32 × Ob)) (x2 : Int32) (x3 : Int32) (x4 : Int32) (x5 : Int32) (x6 : Int32) (x7 : Int32) (z0 : Int32) (SQ : Ob) (SI : Ob) : Option (Int32 × Ob) :=
  if z0 = 0 then
    (f8_findParting_114 k6 k18 x2 x3 x4 x5 x6 SQ SI)
  else
    (if 64 ≤ x4 then
      (f8_findParting_114 k6 k18 x2 x3 x4 x5 x6 SQ SI)
    else
      (bd (f8_isNew x7 x4 SQ) fun r_3 =>
      if r_3 = 0 then
        (f8_findParting_114 k6 k18 x2 x3 x4 x5 x6 SQ SI)
      else
        (ck (inb x4 64) <|
        lt (oA SQ 0 (Int32.toNatClampNeg x4) x7 : Ob) fun SQ_7 =>
        lt (x4 + 1 : Int32) fun x4_8 =>
        f8_findParting_114 k6 k18 x2 x3 x4_8 x5 x6 SQ_7 SI)))
def f8_findParting_73 (k6 : Int32 → Int32 → Int32 → Int32 → Ob → Ob → Option (Int32 × Ob)) (k18 : Int32 → Int32 → Int32 → Int32 → Int32 → Ob → Ob → Option (Int32 × Ob)) (x2 : Int32) (x3 : Int32) (x4 : Int32) (x5 : Int32) (x6 : Int32) (x7 : Int32) (SQ : Ob) (SI : Ob) : Option (Int32 × Ob) :=
  f8_findParting_74 k6 k18 x2 x3 x4 x5 x6 x7 0 SQ SI
def f8_findParting_18 (k6 : Int32 → Int32 → Int32 → Int32 → Ob → Ob → Option (Int32 × Ob)) : Nat → Int32 → Int32 → Int32 → Int32 → Int32 → Ob → Ob → Option (Int32 × Ob)
  | 0, _, _, _, _, _, _, _ => none
  | n + 1, x2, x3, x4, x5, x6, SQ, SI => if (SI.1 0) ≤ x6 then
    (lt (x5 + 1 : Int32) fun x5_2 =>
    k6 x2 x3 x4 x5_2 SQ SI)
  else
    (bd (f4_worldsOf x6 SI) fun r_3 =>
    bd (f4_sayable x5 r_3 SI) fun r_5 =>
    bd (f4_guestsIn (x2 &&& r_5) SI) fun r_7 =>
    ck (inb x5 8) <|
    if (SI.2.2.1 2 (Int32.toNatClampNeg x5)) = 3 then
      (f8_findParting_73 k6 (f8_findParting_18 k6 n) x2 x3 x4 x5 x6 r_7 SQ SI)
    else
      (if r_7 = 0 then
        (f8_findParting_73 k6 (f8_findParting_18 k6 n) x2 x3 x4 x5 x6 r_7 SQ SI)
      else
        (if r_7 = x3 then
          (f8_findParting_73 k6 (f8_findParting_18 k6 n) x2 x3 x4 x5 x6 r_7 SQ SI)
        else
          (f8_findParting_74 k6 (f8_findParting_18 k6 n) x2 x3 x4 x5 x6 r_7 1 SQ SI))))
def f8_findParting_6 : Nat → Int32 → Int32 → Int32 → Int32 → Ob → Ob → Option (Int32 × Ob)
  | 0, _, _, _, _, _, _ => none
  | n + 1, x2, x3, x4, x5, SQ, SI => if (SI.1 0) ≤ x5 then
    (some (x4, SQ))
  else
    (f8_findParting_18 (f8_findParting_6 n) FU x2 x3 x4 x5 0 SQ SI)
def f8_findParting (x2 : Int32) (x3 : Int32) (SQ : Ob) (SI : Ob) : Option (Int32 × Ob) :=
  f8_findParting_6 FU x2 x3 0 0 SQ SI
def f8_bestPart_102 (k5 : Int32 → Int32 → Int32 → Int32 → Ob → Option (Int32)) (x1 : Int32) (x2 : Int32) (x3 : Int32) (x4 : Int32) (SQ : Ob) : Option (Int32) :=
  lt (x4 + 1 : Int32) fun x4_1 =>
  k5 x1 x2 x3 x4_1 SQ
def f8_bestPart_99 (k5 : Int32 → Int32 → Int32 → Int32 → Ob → Option (Int32)) (x1 : Int32) (x2 : Int32) (x4 : Int32) (x7 : Int32) (SQ : Ob) : Option (Int32) :=
  f8_bestPart_102 k5 x1 x2 x7 x4 SQ
def f8_bestPart_5 : Nat → Int32 → Int32 → Int32 → Int32 → Ob → Option (Int32)
  | 0, _, _, _, _, _ => none
  | n + 1, x1, x2, x3, x4, SQ => if x2 ≤ x4 then
    (some x3)
  else
    (ck (inb x4 64) <|
    lt (x1 &&& (SQ.2.2.1 0 (Int32.toNatClampNeg x4)) : Int32) fun x5_3 =>
    ck (inb x4 64) <|
    lt (x1 &&& ((SQ.2.2.1 0 (Int32.toNatClampNeg x4)) ^^^ (-1)) : Int32) fun x6_5 =>
    if x5_3 = 0 then
      (f8_bestPart_102 (f8_bestPart_5 n) x1 x2 x3 x4 SQ)
    else
      (if x6_5 = 0 then
        (f8_bestPart_102 (f8_bestPart_5 n) x1 x2 x3 x4 SQ)
      else
        (ck (inb x5_3 256) <|
        if (SQ.2.2.1 1 (Int32.toNatClampNeg x5_3)) = (-1) then
          (f8_bestPart_102 (f8_bestPart_5 n) x1 x2 x3 x4 SQ)
        else
          (ck (inb x6_5 256) <|
          if (SQ.2.2.1 1 (Int32.toNatClampNeg x6_5)) = (-1) then
            (f8_bestPart_102 (f8_bestPart_5 n) x1 x2 x3 x4 SQ)
          else
            (ck (inb x5_3 256) <|
            ck (inb x6_5 256) <|
            lt (1 + (if (SQ.2.2.1 1 (Int32.toNatClampNeg x5_3)) < (SQ.2.2.1 1 (Int32.toNatClampNeg x6_5)) then (SQ.2.2.1 1 (Int32.toNatClampNeg x6_5)) else (SQ.2.2.1 1 (Int32.toNatClampNeg x5_3))) : Int32) fun x7_14 =>
            if x3 = (-1) then
              (f8_bestPart_99 (f8_bestPart_5 n) x1 x2 x4 x7_14 SQ)
            else
              (if x3 ≤ x7_14 then
                (f8_bestPart_102 (f8_bestPart_5 n) x1 x2 x3 x4 SQ)
              else
                (f8_bestPart_99 (f8_bestPart_5 n) x1 x2 x4 x7_14 SQ)))))))
def f8_bestPart (x1 : Int32) (x2 : Int32) (SQ : Ob) : Option (Int32) :=
  f8_bestPart_5 FU x1 x2 (-1) 0 SQ
def f8_deepest_75 (k24 : Int32 → Int32 → Int32 → Ob → Ob → Option (Int32 × Ob)) (x3 : Int32) (x4 : Int32) (x5 : Int32) (SQ : Ob) (SI : Ob) : Option (Int32 × Ob) :=
  lt (x5 + 1 : Int32) fun x5_1 =>
  k24 x3 x4 x5_1 SQ SI
def f8_deepest_74 (k24 : Int32 → Int32 → Int32 → Ob → Ob → Option (Int32 × Ob)) (x3 : Int32) (x4 : Int32) (x5 : Int32) (z1 : Int32) (z2 : Int32) (SQ : Ob) (SI : Ob) : Option (Int32 × Ob) :=
  ck (inb z1 256) <|
  lt (oA SQ 1 (Int32.toNatClampNeg z1) z2 : Ob) fun SQ_2 =>
  f8_deepest_75 k24 x3 x4 x5 SQ_2 SI
def f8_deepest_81 (x3 : Int32) (SQ : Ob) (SI : Ob) : Option (Int32 × Ob) :=
  ck (inb x3 256) <|
  some (SQ.2.2.1 1 (Int32.toNatClampNeg x3), SQ)
def f8_deepest_24 : Nat → Int32 → Int32 → Int32 → Ob → Ob → Option (Int32 × Ob)
  | 0, _, _, _, _, _ => none
  | n + 1, x3, x4, x5, SQ, SI => if x3 < x5 then
    (f8_deepest_81 x3 SQ SI)
  else
    (if 256 ≤ x5 then
      (f8_deepest_81 x3 SQ SI)
    else
      (if (x5 &&& (x3 ^^^ (-1))) = 0 then
        (bd (fj6_bitCount x5) fun r_4 =>
        if r_4 = 1 then
          (f8_deepest_74 (f8_deepest_24 n) x3 x4 x5 x5 0 SQ SI)
        else
          (bd (f8_bestPart x5 x4 SQ) fun r_7 =>
          f8_deepest_74 (f8_deepest_24 n) x3 x4 x5 x5 r_7 SQ SI))
      else
        (f8_deepest_75 (f8_deepest_24 n) x3 x4 x5 SQ SI)))
def f8_deepest (x2 : Int32) (SQ : Ob) (SI : Ob) : Option (Int32 × Ob) :=
  bd (f4_guestsIn x2 SI) fun r_1 =>
  if r_1 = 0 then
    (some ((-1), SQ))
  else
    (bd (f8_findParting x2 r_1 SQ SI) fun r_4 =>
    lt (r_4.1 : Int32) fun x4_6 =>
    f8_deepest_24 FU r_1 x4_6 1 (r_4.2) SI)
/-! 36.chan.lean.txt -/
def f1_weight_96 (k13 : Int32 → Int64 → Int32 → Ob → Ob → Option (Int64)) (x2 : Int32) (x5 : Int32) (z0 : Int64) (z1 : Int64) (SI : Ob) (SB : Ob) : Option (Int64) :=
  lt (z0 * z1 : Int64) fun x3_1 =>
  lt (x5 + 1 : Int32) fun x5_2 =>
  k13 x2 x3_1 x5_2 SI SB
def f1_weight_66 (k13 : Int32 → Int64 → Int32 → Ob → Ob → Option (Int64)) (x2 : Int32) (x3 : Int64) (x5 : Int32) (x6 : Int32) (z0 : Int32) (SI : Ob) (SB : Ob) : Option (Int64) :=
  if z0 = 0 then
    (ck (inb x6 6) <|
    f1_weight_96 k13 x2 x5 x3 (Int32.toInt64 (SI.2.2.1 10 (Int32.toNatClampNeg x6))) SI SB)
  else
    (ck (inb x6 6) <|
    f1_weight_96 k13 x2 x5 x3 (Int32.toInt64 (10 - (SI.2.2.1 10 (Int32.toNatClampNeg x6)))) SI SB)
def f1_weight_51 (k13 : Int32 → Int64 → Int32 → Ob → Ob → Option (Int64)) (x2 : Int32) (x3 : Int64) (x5 : Int32) (x6 : Int32) (z0 : Int32) (SI : Ob) (SB : Ob) : Option (Int64) :=
  ck (inb x5 8) <|
  if z0 = (SB.2.2.1 5 (Int32.toNatClampNeg x5)) then
    (f1_weight_66 k13 x2 x3 x5 x6 1 SI SB)
  else
    (f1_weight_66 k13 x2 x3 x5 x6 0 SI SB)
def f1_weight_13 : Nat → Int32 → Int64 → Int32 → Ob → Ob → Option (Int64)
  | 0, _, _, _, _, _ => none
  | n + 1, x2, x3, x5, SI, SB => if (SB.1 3) ≤ x5 then
    (some x3)
  else
    (ck (inb x5 8) <|
    lt (SB.2.2.1 4 (Int32.toNatClampNeg x5) : Int32) fun x6_3 =>
    ck (inb x2 32) <|
    if ((ush (SI.2.2.1 12 (Int32.toNatClampNeg x2)) x6_3) &&& 1) = 1 then
      (f1_weight_51 (f1_weight_13 n) x2 x3 x5 x6_3 1 SI SB)
    else
      (f1_weight_51 (f1_weight_13 n) x2 x3 x5 x6_3 0 SI SB))
def f1_weight (x2 : Int32) (SI : Ob) (SB : Ob) : Option (Int64) :=
  ck (nz 4) <|
  ck (inb (x2 / 4) 8) <|
  lt (Int32.toInt64 (SI.2.2.1 4 (Int32.toNatClampNeg (x2 / 4))) : Int64) fun x3_3 =>
  f1_weight_13 FU x2 x3_3 0 SI SB
def f1_together_44 (k5 : Int32 → Int64 → Int32 → Ob → Ob → Option (Int64)) (x2 : Int32) (x3 : Int64) (x5 : Int32) (SI : Ob) (SB : Ob) : Option (Int64) :=
  lt (x5 + 1 : Int32) fun x5_1 =>
  k5 x2 x3 x5_1 SI SB
def f1_together_5 : Nat → Int32 → Int64 → Int32 → Ob → Ob → Option (Int64)
  | 0, _, _, _, _, _ => none
  | n + 1, x2, x3, x5, SI, SB => if ((SI.1 0) * 4) ≤ x5 then
    (some x3)
  else
    (if (((ush (SB.1 0) x5) &&& (ush x2 x5)) &&& 1) = 1 then
      (bd (f1_weight x5 SI SB) fun r_3 =>
      lt (x3 + r_3 : Int64) fun x3_5 =>
      f1_together_44 (f1_together_5 n) x2 x3_5 x5 SI SB)
    else
      (f1_together_44 (f1_together_5 n) x2 x3 x5 SI SB))
def f1_together (x2 : Int32) (SI : Ob) (SB : Ob) : Option (Int64) :=
  f1_together_5 FU x2 0 0 SI SB
def f1_mostLikely_44 (k8 : Int64 → Int32 → Int32 → Ob → Ob → Option (Int32)) (x2 : Int64) (x4 : Int32) (x5 : Int32) (SI : Ob) (SB : Ob) : Option (Int32) :=
  lt (x5 + 1 : Int32) fun x5_1 =>
  k8 x2 x4 x5_1 SI SB
def f1_mostLikely_8 : Nat → Int64 → Int32 → Int32 → Ob → Ob → Option (Int32)
  | 0, _, _, _, _, _ => none
  | n + 1, x2, x4, x5, SI, SB => if (SI.1 0) ≤ x5 then
    (some x4)
  else
    (bd (f4_worldsOf x5 SI) fun r_2 =>
    bd (f1_together r_2 SI SB) fun r_4 =>
    if (lg_cmp r_4 x2) ≤ 0 then
      (f1_mostLikely_44 (f1_mostLikely_8 n) x2 x4 x5 SI SB)
    else
      (f1_mostLikely_44 (f1_mostLikely_8 n) r_4 x5 x5 SI SB))
def f1_mostLikely (SI : Ob) (SB : Ob) : Option (Int32) :=
  f1_mostLikely_8 FU 0 (-1) 0 SI SB
def f1_share_37 (z0 : Int32) (SI : Ob) (SB : Ob) : Option (Int32) :=
  some z0
def f1_share (x2 : Int32) (SI : Ob) (SB : Ob) : Option (Int32) :=
  bd (f4_all SI) fun r_1 =>
  bd (f1_together r_1 SI SB) fun r_3 =>
  if (lg_cmp r_3 0) = 0 then
    (f1_share_37 (-1) SI SB)
  else
    (bd (f4_worldsOf x2 SI) fun r_6 =>
    bd (f1_together r_6 SI SB) fun r_8 =>
    ck (nzl r_3) <|
    f1_share_37 (Int64.toInt32 ((r_8 * 1000000) / r_3)) SI SB)
def f1_wrongly_133 (k33 : Int32 → Int32 → Int32 → Int64 → Int64 → Int32 → Ob → Option (Int32)) (x3 : Int32) (x4 : Int32) (x5 : Int32) (x6 : Int64) (x8 : Int64) (x10 : Int32) (SI : Ob) : Option (Int32) :=
  lt (x10 + 1 : Int32) fun x10_1 =>
  k33 x3 x4 x5 x6 x8 x10_1 SI
def f1_wrongly_117 (k33 : Int32 → Int32 → Int32 → Int64 → Int64 → Int32 → Ob → Option (Int32)) (x3 : Int32) (x4 : Int32) (x5 : Int32) (x8 : Int64) (x10 : Int32) (x12 : Int32) (z0 : Int64) (z1 : Int32) (z2 : Int32) (SI : Ob) : Option (Int32) :=
  lt (z0 + (Int32.toInt64 (z1 * z2)) : Int64) fun x6_1 =>
  lt (x8 + (Int32.toInt64 (x12 * 10)) : Int64) fun x8_2 =>
  f1_wrongly_133 k33 x3 x4 x5 x6_1 x8_2 x10 SI
def f1_wrongly_75 (k33 : Int32 → Int32 → Int32 → Int64 → Int64 → Int32 → Ob → Option (Int32)) (x3 : Int32) (x4 : Int32) (x5 : Int32) (x6 : Int64) (x8 : Int64) (x10 : Int32) (z0 : Int32) (SI : Ob) : Option (Int32) :=
  ck (nz 4) <|
  ck (inb (x10 / 4) 8) <|
  lt (SI.2.2.1 4 (Int32.toNatClampNeg (x10 / 4)) : Int32) fun x12_3 =>
  if z0 = x4 then
    (ck (inb x3 6) <|
    f1_wrongly_117 k33 x3 x4 x5 x8 x10 x12_3 x6 x12_3 (SI.2.2.1 10 (Int32.toNatClampNeg x3)) SI)
  else
    (ck (inb x3 6) <|
    f1_wrongly_117 k33 x3 x4 x5 x8 x10 x12_3 x6 x12_3 (10 - (SI.2.2.1 10 (Int32.toNatClampNeg x3))) SI)
def f1_wrongly_160 (z0 : Int32) (SI : Ob) : Option (Int32) :=
  some z0
def f1_wrongly_33 : Nat → Int32 → Int32 → Int32 → Int64 → Int64 → Int32 → Ob → Option (Int32)
  | 0, _, _, _, _, _, _, _ => none
  | n + 1, x3, x4, x5, x6, x8, x10, SI => if ((SI.1 0) * 4) ≤ x10 then
    (if (lg_cmp x8 0) = 0 then
      (f1_wrongly_160 (-1) SI)
    else
      (ck (nzl x8) <|
      f1_wrongly_160 (Int64.toInt32 ((x6 * 1000000) / x8)) SI))
  else
    (if ((ush x5 x10) &&& 1) = 1 then
      (ck (inb x10 32) <|
      if ((ush (SI.2.2.1 12 (Int32.toNatClampNeg x10)) x3) &&& 1) = 1 then
        (f1_wrongly_75 (f1_wrongly_33 n) x3 x4 x5 x6 x8 x10 1 SI)
      else
        (f1_wrongly_75 (f1_wrongly_33 n) x3 x4 x5 x6 x8 x10 0 SI))
    else
      (f1_wrongly_133 (f1_wrongly_33 n) x3 x4 x5 x6 x8 x10 SI))
def f1_wrongly_21 (x3 : Int32) (x4 : Int32) (z0 : Int32) (z1 : Int32) (SI : Ob) : Option (Int32) :=
  lt (z0 &&& z1 : Int32) fun x5_1 =>
  f1_wrongly_33 FU x3 x4 x5_1 0 0 0 SI
def f1_wrongly (x1 : Int32) (x2 : Int32) (x3 : Int32) (x4 : Int32) (SI : Ob) : Option (Int32) :=
  if x4 = 0 then
    (bd (f4_worldsOf x2 SI) fun r_2 =>
    f1_wrongly_21 x3 x4 x1 (r_2 ^^^ (-1)) SI)
  else
    (bd (f4_worldsOf x2 SI) fun r_4 =>
    f1_wrongly_21 x3 x4 x1 r_4 SI)
def f1_weighRooms_77 (k26 : Int32 → Int32 → Int32 → Ob → Ob → Option (Int32 × Ob)) (x2 : Int32) (x3 : Int32) (x4 : Int32) (SK : Ob) (SI : Ob) : Option (Int32 × Ob) :=
  lt (x4 + 1 : Int32) fun x4_1 =>
  k26 x2 x3 x4_1 SK SI
def f1_weighRooms_26 : Nat → Int32 → Int32 → Int32 → Ob → Ob → Option (Int32 × Ob)
  | 0, _, _, _, _, _ => none
  | n + 1, x2, x3, x4, SK, SI => if (SI.1 0) ≤ x4 then
    (some (x3, SK))
  else
    (if ((ush x2 x4) &&& 1) = 1 then
      (ck (inb x4 8) <|
      ck (inb (SI.2.2.1 3 (Int32.toNatClampNeg x4)) 13) <|
      ck (inb x4 8) <|
      ck (inb (SI.2.2.1 3 (Int32.toNatClampNeg x4)) 13) <|
      lt (oA SK 0 (Int32.toNatClampNeg (SI.2.2.1 3 (Int32.toNatClampNeg x4))) ((SK.2.2.1 0 (Int32.toNatClampNeg (SI.2.2.1 3 (Int32.toNatClampNeg x4)))) + (SI.2.2.1 4 (Int32.toNatClampNeg x4))) : Ob) fun SK_7 =>
      ck (inb x4 8) <|
      lt (x3 + (SI.2.2.1 4 (Int32.toNatClampNeg x4)) : Int32) fun x3_9 =>
      f1_weighRooms_77 (f1_weighRooms_26 n) x2 x3_9 x4 SK_7 SI)
    else
      (f1_weighRooms_77 (f1_weighRooms_26 n) x2 x3 x4 SK SI))
def f1_weighRooms_2 : Nat → Int32 → Int32 → Ob → Ob → Option (Int32 × Ob)
  | 0, _, _, _, _ => none
  | n + 1, x2, x3, SK, SI => if 12 < x3 then
    (f1_weighRooms_26 FU x2 0 0 SK SI)
  else
    (ck (inb x3 13) <|
    lt (oA SK 0 (Int32.toNatClampNeg x3) 0 : Ob) fun SK_3 =>
    lt (x3 + 1 : Int32) fun x3_4 =>
    f1_weighRooms_2 n x2 x3_4 SK_3 SI)
def f1_weighRooms (x2 : Int32) (SK : Ob) (SI : Ob) : Option (Int32 × Ob) :=
  f1_weighRooms_2 FU x2 0 SK SI
def f1_heaviest_27 (k4 : Int32 → Int32 → Ob → Option (Int32)) (x1 : Int32) (x2 : Int32) (SK : Ob) : Option (Int32) :=
  lt (x2 + 1 : Int32) fun x2_1 =>
  k4 x1 x2_1 SK
def f1_heaviest_4 : Nat → Int32 → Int32 → Ob → Option (Int32)
  | 0, _, _, _ => none
  | n + 1, x1, x2, SK => if 12 < x2 then
    (some x1)
  else
    (ck (inb x2 13) <|
    ck (inb x1 13) <|
    if (SK.2.2.1 0 (Int32.toNatClampNeg x2)) ≤ (SK.2.2.1 0 (Int32.toNatClampNeg x1)) then
      (f1_heaviest_27 (f1_heaviest_4 n) x1 x2 SK)
    else
      (f1_heaviest_27 (f1_heaviest_4 n) x2 x2 SK))
def f1_heaviest (SK : Ob) : Option (Int32) :=
  f1_heaviest_4 FU 0 1 SK
def f1_search_112 (z0 : Int32) (SK : Ob) (SI : Ob) : Option (Int32 × Ob) :=
  some (z0, SK)
def f1_search_147 (z0 : Int32) (SK : Ob) (SI : Ob) : Option (Int32 × Ob) :=
  some (z0, SK)
def f1_search_146 (SK : Ob) (SI : Ob) : Option (Int32 × Ob) :=
  f1_search_147 (-1) SK SI
def f1_search_90 (x3 : Int32) (x4 : Int32) (x5 : Int32) (x6 : Int32) (SK : Ob) (SI : Ob) : Option (Int32 × Ob) :=
  if x3 = 0 then
    (if x4 = 0 then
      (f1_search_112 (-1) SK SI)
    else
      (ck (nz x4) <|
      f1_search_112 ((x6 * 1000) / x4) SK SI))
  else
    (if x3 = 1 then
      (some (x5, SK))
    else
      (if (x3 - 2) < 0 then
        (f1_search_146 SK SI)
      else
        (if x5 ≤ (x3 - 2) then
          (f1_search_146 SK SI)
        else
          (ck (inb (x3 - 2) 8) <|
          f1_search_147 (SK.2.2.1 1 (Int32.toNatClampNeg (x3 - 2))) SK SI))))
def f1_search_23 : Nat → Int32 → Int32 → Int32 → Int32 → Int32 → Ob → Ob → Option (Int32 × Ob)
  | 0, _, _, _, _, _, _, _ => none
  | n + 1, x3, x4, x5, x6, x7, SK, SI => if 8 ≤ x7 then
    (f1_search_90 x3 x4 x5 x6 SK SI)
  else
    (bd (f1_heaviest SK) fun r_2 =>
    ck (inb r_2 13) <|
    if (SK.2.2.1 0 (Int32.toNatClampNeg r_2)) = 0 then
      (f1_search_90 x3 x4 x5 x6 SK SI)
    else
      (ck (inb x7 8) <|
      lt (oA SK 1 (Int32.toNatClampNeg x7) r_2 : Ob) fun SK_7 =>
      lt (x5 + 1 : Int32) fun x5_8 =>
      ck (inb r_2 13) <|
      lt (x6 + (x5_8 * (SK_7.2.2.1 0 (Int32.toNatClampNeg r_2))) : Int32) fun x6_10 =>
      ck (inb r_2 13) <|
      lt (oA SK_7 0 (Int32.toNatClampNeg r_2) 0 : Ob) fun SK_12 =>
      lt (x7 + 1 : Int32) fun x7_13 =>
      f1_search_23 n x3 x4 x5_8 x6_10 x7_13 SK_12 SI))
def f1_search (x2 : Int32) (x3 : Int32) (SK : Ob) (SI : Ob) : Option (Int32 × Ob) :=
  if x2 = 0 then
    (some ((-1), SK))
  else
    (bd (f1_weighRooms x2 SK SI) fun r_2 =>
    lt (r_2.1 : Int32) fun x4_4 =>
    f1_search_23 FU x3 x4_4 0 0 0 (r_2.2) SI)
/-! 37.landa.lean.txt -/
def f5_bedFrom_124 (rec : Int32 → Int32 → Int32 → Ob → Ob → Option (Int32 × Ob)) (k13 : Int32 → Int32 → Int32 → Int32 → Ob → Ob → Option (Int32 × Ob)) (x2 : Int32) (x3 : Int32) (x4 : Int32) (x5 : Int32) (SL : Ob) (SI : Ob) : Option (Int32 × Ob) :=
  lt (x5 + 1 : Int32) fun x5_1 =>
  k13 x2 x3 x4 x5_1 SL SI
def f5_bedFrom_105 (rec : Int32 → Int32 → Int32 → Ob → Ob → Option (Int32 × Ob)) (k13 : Int32 → Int32 → Int32 → Int32 → Ob → Ob → Option (Int32 × Ob)) (x2 : Int32) (x3 : Int32) (x4 : Int32) (x5 : Int32) (x6 : Int32) (z2 : Int32) (z3 : Int32) (SL : Ob) (SI : Ob) : Option (Int32 × Ob) :=
  bd (rec z2 z3 x4 SL SI) fun r_1 =>
  if (r_1.1) = 0 then
    (ck (inb x5 8) <|
    lt (oA (r_1.2) 1 (Int32.toNatClampNeg x5) x6 : Ob) fun SL_5 =>
    f5_bedFrom_124 rec k13 x2 x3 x4 x5 SL_5 SI)
  else
    (some (1, r_1.2))
def f5_bedFrom_43 (rec : Int32 → Int32 → Int32 → Ob → Ob → Option (Int32 × Ob)) (k13 : Int32 → Int32 → Int32 → Int32 → Ob → Ob → Option (Int32 × Ob)) (x2 : Int32) (x3 : Int32) (x4 : Int32) (x5 : Int32) (z0 : Int32) (SL : Ob) (SI : Ob) : Option (Int32 × Ob) :=
  bd (fj6_bitCount z0) fun r_1 =>
  if 3 ≤ r_1 then
    (f5_bedFrom_124 rec k13 x2 x3 x4 x5 SL SI)
  else
    (ck (inb x2 8) <|
    if (z0 &&& (SI.2.2.1 6 (Int32.toNatClampNeg x2))) = 0 then
      (ck (inb x5 8) <|
      lt (oA SL 1 (Int32.toNatClampNeg x5) (z0 ||| (1 <<< (x2 &&& 31))) : Ob) fun SL_7 =>
      ck (inb x2 8) <|
      lt (oA SL_7 0 (Int32.toNatClampNeg x2) x5 : Ob) fun SL_9 =>
      if x5 = x3 then
        (f5_bedFrom_105 rec k13 x2 x3 x4 x5 z0 (x2 + 1) (x3 + 1) SL_9 SI)
      else
        (f5_bedFrom_105 rec k13 x2 x3 x4 x5 z0 (x2 + 1) x3 SL_9 SI))
    else
      (f5_bedFrom_124 rec k13 x2 x3 x4 x5 SL SI))
def f5_bedFrom_130 (rec : Int32 → Int32 → Int32 → Ob → Ob → Option (Int32 × Ob)) (SL : Ob) (SI : Ob) : Option (Int32 × Ob) :=
  some (0, SL)
def f5_bedFrom_13 (rec : Int32 → Int32 → Int32 → Ob → Ob → Option (Int32 × Ob)) : Nat → Int32 → Int32 → Int32 → Int32 → Ob → Ob → Option (Int32 × Ob)
  | 0, _, _, _, _, _, _ => none
  | n + 1, x2, x3, x4, x5, SL, SI => if x3 < x5 then
    (f5_bedFrom_130 rec SL SI)
  else
    (if x4 ≤ x5 then
      (f5_bedFrom_130 rec SL SI)
    else
      (if x5 = x3 then
        (f5_bedFrom_43 rec (f5_bedFrom_13 rec n) x2 x3 x4 x5 0 SL SI)
      else
        (ck (inb x5 8) <|
        f5_bedFrom_43 rec (f5_bedFrom_13 rec n) x2 x3 x4 x5 (SL.2.2.1 1 (Int32.toNatClampNeg x5)) SL SI)))
def f5_bedFrom_b (rec : Int32 → Int32 → Int32 → Ob → Ob → Option (Int32 × Ob)) (x2 : Int32) (x3 : Int32) (x4 : Int32) (SL : Ob) (SI : Ob) : Option (Int32 × Ob) :=
  if x2 < (SI.1 0) then
    (f5_bedFrom_13 rec FU x2 x3 x4 0 SL SI)
  else
    (some (1, SL))
def f5_bedFrom : Nat → Int32 → Int32 → Int32 → Ob → Ob → Option (Int32 × Ob)
  | 0, _, _, _, _, _ => none
  | dp + 1, x2, x3, x4, SL, SI => f5_bedFrom_b (f5_bedFrom dp) x2 x3 x4 SL SI
/-! 38.landb.lean.txt -/
def f5_payment_113 (k57 : Int32 → Int32 → Int32 → Int32 → Int32 → Int32 → Int32 → Ob → Option (Int32)) (x1 : Int32) (x2 : Int32) (x3 : Int32) (x4 : Int32) (x5 : Int32) (x6 : Int32) (x7 : Int32) (SI : Ob) : Option (Int32) :=
  lt (x7 + 1 : Int32) fun x7_1 =>
  k57 x1 x2 x3 x4 x5 x6 x7_1 SI
def f5_payment_110 (k57 : Int32 → Int32 → Int32 → Int32 → Int32 → Int32 → Int32 → Ob → Option (Int32)) (x1 : Int32) (x2 : Int32) (x3 : Int32) (x4 : Int32) (x5 : Int32) (x6 : Int32) (x7 : Int32) (SI : Ob) : Option (Int32) :=
  lt (x6 + 1 : Int32) fun x6_1 =>
  f5_payment_113 k57 x1 x2 x3 x4 x5 x6_1 x7 SI
def f5_payment_141 (z0 : Int32) (z1 : Int32) (SI : Ob) : Option (Int32) :=
  some (z0 + z1)
def f5_payment_57 : Nat → Int32 → Int32 → Int32 → Int32 → Int32 → Int32 → Int32 → Ob → Option (Int32)
  | 0, _, _, _, _, _, _, _, _ => none
  | n + 1, x1, x2, x3, x4, x5, x6, x7, SI => if (SI.1 0) ≤ x7 then
    (ck (inb x2 8) <|
    ck (nz x3) <|
    if x5 ≤ x6 then
      (f5_payment_141 ((x1 * (SI.2.2.1 7 (Int32.toNatClampNeg x2))) / x3) 0 SI)
    else
      (f5_payment_141 ((x1 * (SI.2.2.1 7 (Int32.toNatClampNeg x2))) / x3) 1 SI))
  else
    (ck (inb x7 8) <|
    lt (x1 * (SI.2.2.1 7 (Int32.toNatClampNeg x7)) : Int32) fun x8_6 =>
    ck (nz x3) <|
    lt (x5 - (x8_6 / x3) : Int32) fun x5_8 =>
    ck (nz x3) <|
    if x4 < (x8_6 - x8_6 / x3 * x3) then
      (f5_payment_110 (f5_payment_57 n) x1 x2 x3 x4 x5_8 x6 x7 SI)
    else
      (ck (nz x3) <|
      if (x8_6 - x8_6 / x3 * x3) = x4 then
        (if x2 ≤ x7 then
          (f5_payment_113 (f5_payment_57 n) x1 x2 x3 x4 x5_8 x6 x7 SI)
        else
          (f5_payment_110 (f5_payment_57 n) x1 x2 x3 x4 x5_8 x6 x7 SI))
      else
        (f5_payment_113 (f5_payment_57 n) x1 x2 x3 x4 x5_8 x6 x7 SI)))
def f5_payment_5 : Nat → Int32 → Int32 → Int32 → Int32 → Ob → Option (Int32)
  | 0, _, _, _, _, _ => none
  | n + 1, x1, x2, x3, x4, SI => if (SI.1 0) ≤ x4 then
    (if x3 = 0 then
      (some 0)
    else
      (ck (inb x2 8) <|
      ck (nz x3) <|
      lt ((x1 * (SI.2.2.1 7 (Int32.toNatClampNeg x2))) - (x1 * (SI.2.2.1 7 (Int32.toNatClampNeg x2))) / x3 * x3 : Int32) fun x4_5 =>
      f5_payment_57 FU x1 x2 x3 x4_5 x1 0 0 SI))
  else
    (ck (inb x4 8) <|
    lt (x3 + (SI.2.2.1 7 (Int32.toNatClampNeg x4)) : Int32) fun x3_7 =>
    lt (x4 + 1 : Int32) fun x4_8 =>
    f5_payment_5 n x1 x2 x3_7 x4_8 SI)
def f5_payment (x1 : Int32) (x2 : Int32) (SI : Ob) : Option (Int32) :=
  f5_payment_5 FU x1 x2 0 0 SI
def f5_bedAll_2 : Nat → Int32 → Ob → Ob → Option (Int32 × Ob)
  | 0, _, _, _ => none
  | n + 1, x2, SL, SI => if 8 ≤ x2 then
    (bd (f5_bedFrom DP 0 0 8 SL SI) fun r_2 =>
    some (8, r_2.2))
  else
    (bd (f5_bedFrom DP 0 0 x2 SL SI) fun r_4 =>
    if (r_4.1) = 0 then
      (lt (x2 + 1 : Int32) fun x2_7 =>
      f5_bedAll_2 n x2_7 (r_4.2) SI)
    else
      (some (x2, r_4.2)))
def f5_bedAll (SL : Ob) (SI : Ob) : Option (Int32 × Ob) :=
  f5_bedAll_2 FU 0 SL SI
def f5_neighbours_48 (k5 : Int32 → Int32 → Int32 → Int32 → Ob → Option (Int32)) (x1 : Int32) (x2 : Int32) (x3 : Int32) (x4 : Int32) (SI : Ob) : Option (Int32) :=
  lt (x4 + 1 : Int32) fun x4_1 =>
  k5 x1 x2 x3 x4_1 SI
def f5_neighbours_5 : Nat → Int32 → Int32 → Int32 → Int32 → Ob → Option (Int32)
  | 0, _, _, _, _, _ => none
  | n + 1, x1, x2, x3, x4, SI => if (SI.1 0) ≤ x4 then
    (some x3)
  else
    (if x4 = x1 then
      (f5_neighbours_48 (f5_neighbours_5 n) x1 x2 x3 x4 SI)
    else
      (ck (inb x4 8) <|
      ck (inb x1 8) <|
      if x2 < (if 0 ≤ ((SI.2.2.1 3 (Int32.toNatClampNeg x4)) - (SI.2.2.1 3 (Int32.toNatClampNeg x1))) then ((SI.2.2.1 3 (Int32.toNatClampNeg x4)) - (SI.2.2.1 3 (Int32.toNatClampNeg x1))) else 0 - ((SI.2.2.1 3 (Int32.toNatClampNeg x4)) - (SI.2.2.1 3 (Int32.toNatClampNeg x1)))) then
        (f5_neighbours_48 (f5_neighbours_5 n) x1 x2 x3 x4 SI)
      else
        (lt (x3 ||| (1 <<< (x4 &&& 31)) : Int32) fun x3_6 =>
        f5_neighbours_48 (f5_neighbours_5 n) x1 x2 x3_6 x4 SI)))
def f5_neighbours (x1 : Int32) (x2 : Int32) (SI : Ob) : Option (Int32) :=
  f5_neighbours_5 FU x1 x2 0 0 SI
def f5_watchesAll_3 : Nat → Int32 → Int32 → Int32 → Ob → Ob → Option (Int32)
  | 0, _, _, _, _, _ => none
  | n + 1, x2, x3, x4, SL, SI => if (SI.1 0) ≤ x4 then
    (some 1)
  else
    (ck (inb x4 8) <|
    bd (fj6_bitCount (x2 &&& (SL.2.2.1 2 (Int32.toNatClampNeg x4)))) fun r_3 =>
    if x3 ≤ r_3 then
      (lt (x4 + 1 : Int32) fun x4_6 =>
      f5_watchesAll_3 n x2 x3 x4_6 SL SI)
    else
      (some 0))
def f5_watchesAll (x2 : Int32) (x3 : Int32) (SL : Ob) (SI : Ob) : Option (Int32) :=
  f5_watchesAll_3 FU x2 x3 0 SL SI
def f5_awake_95 (k38 : Int32 → Int32 → Int32 → Ob → Ob → Option (Int32 × Ob)) (x2 : Int32) (x4 : Int32) (x5 : Int32) (SL : Ob) (SI : Ob) : Option (Int32 × Ob) :=
  lt (x5 + 1 : Int32) fun x5_1 =>
  k38 x2 x4 x5_1 SL SI
def f5_awake_73 (k38 : Int32 → Int32 → Int32 → Ob → Ob → Option (Int32 × Ob)) (x2 : Int32) (x4 : Int32) (x5 : Int32) (z0 : Int32) (SL : Ob) (SI : Ob) : Option (Int32 × Ob) :=
  if z0 = 0 then
    (f5_awake_95 k38 x2 x4 x5 SL SI)
  else
    (bd (f5_watchesAll x5 x2 SL SI) fun r_2 =>
    if r_2 = 0 then
      (f5_awake_95 k38 x2 x4 x5 SL SI)
    else
      (f5_awake_95 k38 x2 x5 x5 SL SI))
def f5_awake_68 (k38 : Int32 → Int32 → Int32 → Ob → Ob → Option (Int32 × Ob)) (x2 : Int32) (x4 : Int32) (x5 : Int32) (SL : Ob) (SI : Ob) : Option (Int32 × Ob) :=
  f5_awake_73 k38 x2 x4 x5 1 SL SI
def f5_awake_38 : Nat → Int32 → Int32 → Int32 → Ob → Ob → Option (Int32 × Ob)
  | 0, _, _, _, _, _ => none
  | n + 1, x2, x4, x5, SL, SI => if (1 <<< ((SI.1 0) &&& 31)) ≤ x5 then
    (some (x4, SL))
  else
    (if x4 = (-1) then
      (f5_awake_68 (f5_awake_38 n) x2 x4 x5 SL SI)
    else
      (bd (fj6_bitCount x5) fun r_3 =>
      bd (fj6_bitCount x4) fun r_5 =>
      if r_5 ≤ r_3 then
        (f5_awake_73 (f5_awake_38 n) x2 x4 x5 0 SL SI)
      else
        (f5_awake_68 (f5_awake_38 n) x2 x4 x5 SL SI)))
def f5_awake_3 : Nat → Int32 → Int32 → Int32 → Ob → Ob → Option (Int32 × Ob)
  | 0, _, _, _, _, _ => none
  | n + 1, x2, x3, x4, SL, SI => if (SI.1 0) ≤ x4 then
    (f5_awake_38 FU x2 (-1) 0 SL SI)
  else
    (bd (f5_neighbours x4 x3 SI) fun r_2 =>
    ck (inb x4 8) <|
    lt (oA SL 2 (Int32.toNatClampNeg x4) r_2 : Ob) fun SL_5 =>
    lt (x4 + 1 : Int32) fun x4_6 =>
    f5_awake_3 n x2 x3 x4_6 SL_5 SI)
def f5_awake (x2 : Int32) (x3 : Int32) (SL : Ob) (SI : Ob) : Option (Int32 × Ob) :=
  f5_awake_3 FU x2 x3 0 SL SI
/-! 39.mind.lean.txt -/
def f6_withLooks_50 (k6 : Int32 → Int32 → Int64 → Int32 → Int32 → Ob → Option (Int32)) (x1 : Int32) (x2 : Int32) (x3 : Int64) (x5 : Int32) (x6 : Int32) (SI : Ob) : Option (Int32) :=
  lt (x6 + 1 : Int32) fun x6_1 =>
  k6 x1 x2 x3 x5 x6_1 SI
def f6_withLooks_6 : Nat → Int32 → Int32 → Int64 → Int32 → Int32 → Ob → Option (Int32)
  | 0, _, _, _, _, _, _ => none
  | n + 1, x1, x2, x3, x5, x6, SI => if 32 ≤ x6 then
    (some x5)
  else
    (if ((ush x2 x6) &&& 1) = 1 then
      (ck (inb x6 32) <|
      if (lg_cmp ((lush x3 ((SI.2.2.1 12 (Int32.toNatClampNeg x6)) &&& x1)) &&& 1) 1) = 0 then
        (lt (x5 ||| (1 <<< (x6 &&& 31)) : Int32) fun x5_5 =>
        f6_withLooks_50 (f6_withLooks_6 n) x1 x2 x3 x5_5 x6 SI)
      else
        (f6_withLooks_50 (f6_withLooks_6 n) x1 x2 x3 x5 x6 SI))
    else
      (f6_withLooks_50 (f6_withLooks_6 n) x1 x2 x3 x5 x6 SI))
def f6_withLooks (x1 : Int32) (x2 : Int32) (x3 : Int64) (SI : Ob) : Option (Int32) :=
  f6_withLooks_6 FU x1 x2 x3 0 0 SI
def f6_view (x1 : Int32) (x2 : Int32) (x3 : Int32) (SI : Ob) : Option (Int32) :=
  ck (inb x1 8) <|
  ck (inb x2 32) <|
  ck (inb x1 8) <|
  bd (f6_withLooks (SI.2.2.1 5 (Int32.toNatClampNeg x1)) x3 (1 <<< (Int32.toInt64 ((SI.2.2.1 12 (Int32.toNatClampNeg x2)) &&& (SI.2.2.1 5 (Int32.toNatClampNeg x1))) &&& 63)) SI) fun r_4 =>
  some r_4
def f6_looks_46 (k6 : Int32 → Int32 → Int32 → Int64 → Int32 → Ob → Option (Int64)) (x1 : Int32) (x2 : Int32) (x3 : Int32) (x4 : Int64) (x6 : Int32) (SI : Ob) : Option (Int64) :=
  lt (x6 + 1 : Int32) fun x6_1 =>
  k6 x1 x2 x3 x4 x6_1 SI
def f6_looks_6 : Nat → Int32 → Int32 → Int32 → Int64 → Int32 → Ob → Option (Int64)
  | 0, _, _, _, _, _, _ => none
  | n + 1, x1, x2, x3, x4, x6, SI => if 4 ≤ x6 then
    (some x4)
  else
    (lt ((x3 * 4) + x6 : Int32) fun x7_2 =>
    if ((ush x2 x7_2) &&& 1) = 1 then
      (ck (inb x7_2 32) <|
      lt (x4 ||| (1 <<< (Int32.toInt64 ((SI.2.2.1 12 (Int32.toNatClampNeg x7_2)) &&& x1) &&& 63)) : Int64) fun x4_5 =>
      f6_looks_46 (f6_looks_6 n) x1 x2 x3 x4_5 x6 SI)
    else
      (f6_looks_46 (f6_looks_6 n) x1 x2 x3 x4 x6 SI))
def f6_looks (x1 : Int32) (x2 : Int32) (x3 : Int32) (SI : Ob) : Option (Int64) :=
  f6_looks_6 FU x1 x2 x3 0 0 SI
def f6_doubtful_8 : Nat → Int32 → Int32 → Int64 → Int64 → Int32 → Ob → Option (Int64)
  | 0, _, _, _, _, _, _ => none
  | n + 1, x1, x2, x3, x5, x7, SI => if (SI.1 0) ≤ x7 then
    (some x5)
  else
    (bd (f6_looks x1 x2 x7 SI) fun r_2 =>
    lt (x5 ||| (x3 &&& r_2) : Int64) fun x5_4 =>
    lt (x3 ||| r_2 : Int64) fun x3_5 =>
    lt (x7 + 1 : Int32) fun x7_6 =>
    f6_doubtful_8 n x1 x2 x3_5 x5_4 x7_6 SI)
def f6_doubtful (x1 : Int32) (x2 : Int32) (SI : Ob) : Option (Int64) :=
  f6_doubtful_8 FU x1 x2 0 0 0 SI
def f6_knowing (x1 : Int32) (x2 : Int32) (SI : Ob) : Option (Int32) :=
  ck (inb x1 8) <|
  lt (SI.2.2.1 5 (Int32.toNatClampNeg x1) : Int32) fun x3_2 =>
  bd (f6_doubtful x3_2 x2 SI) fun r_3 =>
  bd (f6_withLooks x3_2 x2 (r_3 ^^^ (-1)) SI) fun r_5 =>
  some r_5
def f6_tellingSigns_55 (k4 : Int32 → Int32 → Int32 → Ob → Option (Int32)) (x1 : Int32) (x2 : Int32) (x3 : Int32) (SI : Ob) : Option (Int32) :=
  lt (x3 + 1 : Int32) fun x3_1 =>
  k4 x1 x2 x3_1 SI
def f6_tellingSigns_35 (k4 : Int32 → Int32 → Int32 → Ob → Option (Int32)) (x1 : Int32) (x2 : Int32) (x3 : Int32) (z0 : Int32) (SI : Ob) : Option (Int32) :=
  if z0 = 0 then
    (f6_tellingSigns_55 k4 x1 x2 x3 SI)
  else
    (bd (f6_doubtful x3 x1 SI) fun r_2 =>
    if (lg_cmp r_2 0) = 0 then
      (f6_tellingSigns_55 k4 x1 x3 x3 SI)
    else
      (f6_tellingSigns_55 k4 x1 x2 x3 SI))
def f6_tellingSigns_30 (k4 : Int32 → Int32 → Int32 → Ob → Option (Int32)) (x1 : Int32) (x2 : Int32) (x3 : Int32) (SI : Ob) : Option (Int32) :=
  f6_tellingSigns_35 k4 x1 x2 x3 1 SI
def f6_tellingSigns_4 : Nat → Int32 → Int32 → Int32 → Ob → Option (Int32)
  | 0, _, _, _, _ => none
  | n + 1, x1, x2, x3, SI => if (1 <<< ((SI.1 8) &&& 31)) ≤ x3 then
    (some x2)
  else
    (if x2 = (-1) then
      (f6_tellingSigns_30 (f6_tellingSigns_4 n) x1 x2 x3 SI)
    else
      (bd (fj6_bitCount x3) fun r_3 =>
      bd (fj6_bitCount x2) fun r_5 =>
      if r_5 ≤ r_3 then
        (f6_tellingSigns_35 (f6_tellingSigns_4 n) x1 x2 x3 0 SI)
      else
        (f6_tellingSigns_30 (f6_tellingSigns_4 n) x1 x2 x3 SI)))
def f6_tellingSigns (x1 : Int32) (SI : Ob) : Option (Int32) :=
  f6_tellingSigns_4 FU x1 (-1) 0 SI
def f6_sayingRounds_87 (z0 : Int32) (SI : Ob) : Option (Int32) :=
  some z0
def f6_sayingRounds_23 (k6 : Int32 → Int32 → Int32 → Int32 → Ob → Option (Int32)) : Nat → Int32 → Int32 → Int32 → Int32 → Int32 → Int32 → Int32 → Ob → Option (Int32)
  | 0, _, _, _, _, _, _, _, _ => none
  | n + 1, x1, x3, x4, x5, x6, x7, x8, SI => if (SI.1 0) ≤ x8 then
    (if x6 = 0 then
      (if x7 = x4 then
        (some (-1))
      else
        (lt (x5 + 1 : Int32) fun x5_4 =>
        k6 x1 x3 x7 x5_4 SI))
    else
      (if x3 = 0 then
        (f6_sayingRounds_87 x5 SI)
      else
        (f6_sayingRounds_87 x6 SI)))
  else
    (bd (f6_knowing x8 x4 SI) fun r_6 =>
    lt (x6 ||| (((ush r_6 x1) &&& 1) <<< (x8 &&& 31)) : Int32) fun x6_8 =>
    lt (x7 &&& (r_6 ^^^ (-1)) : Int32) fun x7_9 =>
    lt (x8 + 1 : Int32) fun x8_10 =>
    f6_sayingRounds_23 k6 n x1 x3 x4 x5 x6_8 x7_9 x8_10 SI)
def f6_sayingRounds_6 : Nat → Int32 → Int32 → Int32 → Int32 → Ob → Option (Int32)
  | 0, _, _, _, _, _ => none
  | n + 1, x1, x3, x4, x5, SI => if 32 < x5 then
    (some (-1))
  else
    (f6_sayingRounds_23 (f6_sayingRounds_6 n) FU x1 x3 x4 x5 0 x4 0 SI)
def f6_sayingRounds (x1 : Int32) (x2 : Int32) (x3 : Int32) (SI : Ob) : Option (Int32) :=
  f6_sayingRounds_6 FU x1 x3 x2 1 SI
def f6_seenFrom_6 : Nat → Int32 → Int32 → Int32 → Int64 → Int32 → Ob → Option (Int32)
  | 0, _, _, _, _, _, _ => none
  | n + 1, x1, x2, x3, x4, x6, SI => if (SI.1 0) ≤ x6 then
    (bd (f6_withLooks x1 x2 x4 SI) fun r_2 =>
    some r_2)
  else
    (bd (f6_looks x1 x3 x6 SI) fun r_4 =>
    lt (x4 ||| r_4 : Int64) fun x4_6 =>
    lt (x6 + 1 : Int32) fun x6_7 =>
    f6_seenFrom_6 n x1 x2 x3 x4_6 x6_7 SI)
def f6_seenFrom (x1 : Int32) (x2 : Int32) (x3 : Int32) (SI : Ob) : Option (Int32) :=
  f6_seenFrom_6 FU x1 x2 x3 0 0 SI
def f6_reached_66 (x3 : Int32) (SI : Ob) : Option (Int32) :=
  some x3
def f6_reached_20 (k7 : Int32 → Int32 → Int32 → Ob → Option (Int32)) : Nat → Int32 → Int32 → Int32 → Int32 → Int32 → Ob → Option (Int32)
  | 0, _, _, _, _, _, _ => none
  | n + 1, x2, x3, x4, x5, x6, SI => if (SI.1 0) ≤ x6 then
    (if x3 = x5 then
      (f6_reached_66 x3 SI)
    else
      (lt (x4 + 1 : Int32) fun x4_3 =>
      k7 x2 x3 x4_3 SI))
  else
    (ck (inb x6 8) <|
    bd (f6_seenFrom (SI.2.2.1 5 (Int32.toNatClampNeg x6)) x2 x3 SI) fun r_5 =>
    lt (x3 ||| r_5 : Int32) fun x3_7 =>
    lt (x6 + 1 : Int32) fun x6_8 =>
    f6_reached_20 k7 n x2 x3_7 x4 x5 x6_8 SI)
def f6_reached_7 : Nat → Int32 → Int32 → Int32 → Ob → Option (Int32)
  | 0, _, _, _, _ => none
  | n + 1, x2, x3, x4, SI => if 32 ≤ x4 then
    (f6_reached_66 x3 SI)
  else
    (f6_reached_20 (f6_reached_7 n) FU x2 x3 x4 x3 0 SI)
def f6_reached (x1 : Int32) (x2 : Int32) (SI : Ob) : Option (Int32) :=
  lt (1 <<< (x1 &&& 31) : Int32) fun x3_1 =>
  f6_reached_7 FU x2 x3_1 0 SI
def f6_next (x0 : Int64) : Option (Int64) :=
  ck (nzl 2147483648) <|
  some (((x0 * 1103515245) + 12345) - ((x0 * 1103515245) + 12345) / 2147483648 * 2147483648)
def f6_below_17 (z0 : Int32) : Option (Int32) :=
  some z0
def f6_below (x0 : Int64) (x2 : Int32) : Option (Int32) :=
  if 0 < x2 then
    (ck (nzl 65536) <|
    ck (nzl (Int32.toInt64 x2)) <|
    f6_below_17 (Int64.toInt32 ((x0 / 65536) - (x0 / 65536) / (Int32.toInt64 x2) * (Int32.toInt64 x2))))
  else
    (f6_below_17 0)
def f6_drawnGuest_4 : Nat → Int32 → Int32 → Ob → Option (Int32)
  | 0, _, _, _ => none
  | n + 1, x2, x3, SI => if (SI.1 0) ≤ x3 then
    (some 0)
  else
    (ck (inb x3 8) <|
    if (SI.2.2.1 4 (Int32.toNatClampNeg x3)) ≤ x2 then
      (ck (inb x3 8) <|
      lt (x2 - (SI.2.2.1 4 (Int32.toNatClampNeg x3)) : Int32) fun x2_5 =>
      lt (x3 + 1 : Int32) fun x3_6 =>
      f6_drawnGuest_4 n x2_5 x3_6 SI)
    else
      (some x3))
def f6_drawnGuest (x1 : Int32) (SI : Ob) : Option (Int32) :=
  f6_drawnGuest_4 FU x1 0 SI
def f6_ofNight_74 (z0 : Int32) (SI : Ob) : Option (Int32) :=
  some z0
def f6_ofNight_44 (x4 : Int32) (z0 : Int32) (SI : Ob) : Option (Int32) :=
  bd (f4_all SI) fun r_1 =>
  bd (f6_doubtful z0 r_1 SI) fun r_3 =>
  if (lg_cmp ((lush r_3 (x4 &&& z0)) &&& 1) 0) = 0 then
    (f6_ofNight_74 1 SI)
  else
    (f6_ofNight_74 0 SI)
def f6_ofNight (x1 : Int32) (x2 : Int32) (x3 : Int32) (SI : Ob) : Option (Int32) :=
  ck (inb ((x1 * 4) + x2) 32) <|
  lt (SI.2.2.1 12 (Int32.toNatClampNeg ((x1 * 4) + x2)) : Int32) fun x4_2 =>
  if x3 = 2 then
    (bd (fj6_bitCount x4_2) fun r_6 =>
    some r_6)
  else
    (if x3 = 0 then
      (f6_ofNight_44 x4_2 ((1 <<< ((SI.1 8) &&& 31)) - 1) SI)
    else
      (ck (inb x1 8) <|
      f6_ofNight_44 x4_2 (SI.2.2.1 5 (Int32.toNatClampNeg x1)) SI))
def f6_drawnYears_43 : Nat → Int32 → Int32 → Int32 → Int64 → Int32 → Int32 → Ob → Option (Int32)
  | 0, _, _, _, _, _, _, _ => none
  | n + 1, x2, x3, x4, x5, x7, x8, SI => if x2 ≤ x8 then
    (some x7)
  else
    (bd (f6_next x5) fun r_2 =>
    bd (f6_below r_2 x4) fun r_4 =>
    bd (f6_drawnGuest r_4 SI) fun r_6 =>
    bd (f6_next r_2) fun r_8 =>
    bd (f6_below r_8 4) fun r_10 =>
    bd (f6_ofNight r_6 r_10 x3 SI) fun r_12 =>
    lt (x7 + r_12 : Int32) fun x7_14 =>
    lt (x8 + 1 : Int32) fun x8_15 =>
    f6_drawnYears_43 n x2 x3 x4 r_8 x7_14 x8_15 SI)
def f6_drawnYears_6 : Nat → Int32 → Int32 → Int32 → Int32 → Int32 → Ob → Option (Int32)
  | 0, _, _, _, _, _, _ => none
  | n + 1, x1, x2, x3, x4, x5, SI => if (SI.1 0) ≤ x5 then
    (lt (Int32.toInt64 x1 : Int64) fun x5_2 =>
    f6_drawnYears_43 FU x2 x3 x4 x5_2 0 0 SI)
  else
    (ck (inb x5 8) <|
    lt (x4 + (SI.2.2.1 4 (Int32.toNatClampNeg x5)) : Int32) fun x4_4 =>
    lt (x5 + 1 : Int32) fun x5_5 =>
    f6_drawnYears_6 n x1 x2 x3 x4_4 x5_5 SI)
def f6_drawnYears (x1 : Int32) (x2 : Int32) (x3 : Int32) (SI : Ob) : Option (Int32) :=
  f6_drawnYears_6 FU x1 x2 x3 0 0 SI
/-! 40.strs.lean.txt -/
def fj1_canEncode_9a6ad_16 (z0 : Int32) : Option (Int32) :=
  ck (isz z0) (some z0)
def fj1_canEncode_9a6ad_15 : Option (Int32) :=
  fj1_canEncode_9a6ad_16 0
def fj1_canEncode_9a6ad (x0 : Int32) : Option (Int32) :=
  if x0 < 0 then
    (fj1_canEncode_9a6ad_15 )
  else
    (if 255 < x0 then
      (fj1_canEncode_9a6ad_15 )
    else
      (fj1_canEncode_9a6ad_16 1))
def fj1_indexOfChar_4cfef_7 : Nat → Int32 → Int32 → Int32 → Option (Int32)
  | 0, _, _, _ => none
  | n + 1, x3, x4, x5 => if x3 ≤ x5 then
    (some (-1))
  else
    (ck (inb x5 8) <|
    if ((sBy.getD 1 []).getD (Int32.toNatClampNeg x5) 0) = x4 then
      (some x5)
    else
      (lt (x5 + 1 : Int32) fun x5_4 =>
      fj1_indexOfChar_4cfef_7 n x3 x4 x5_4))
def fj1_indexOfChar_4cfef (x1 : Int32) (x2 : Int32) (x3 : Int32) : Option (Int32) :=
  lt ((Int32.toInt8 x1).toInt32 : Int32) fun x4_1 =>
  fj1_indexOfChar_4cfef_7 FU x3 x4_1 x2
def fj1_indexOf_4cfef (x1 : Int32) (x2 : Int32) (x3 : Int32) : Option (Int32) :=
  bd (fj1_canEncode_9a6ad x1) fun r_1 =>
  if r_1 = 0 then
    (some (-1))
  else
    (lt (if x2 < 0 then 0 else x2 : Int32) fun x2_4 =>
    lt (if 8 < x3 then 8 else x3 : Int32) fun x3_5 =>
    if x2_4 < x3_5 then
      (bd (fj1_indexOfChar_4cfef x1 x2_4 x3_5) fun r_7 =>
      some r_7)
    else
      (some (-1)))
def fj0_isLatin1_aae02_18 (z0 : Int32) : Option (Int32) :=
  ck (isz z0) (some z0)
def fj0_isLatin1_aae02_17 : Option (Int32) :=
  fj0_isLatin1_aae02_18 0
def fj0_isLatin1_aae02 : Option (Int32) :=
  if (1 : Int32) = 0 then
    (fj0_isLatin1_aae02_17 )
  else
    (if (0 : Int32) = 0 then
      (fj0_isLatin1_aae02_18 1)
    else
      (fj0_isLatin1_aae02_17 ))
def fj0_coder_7d493_14 (z0 : Int32) : Option (Int32) :=
  ck (isb z0) (some z0)
def fj0_coder_7d493 : Option (Int32) :=
  if (1 : Int32) = 0 then
    (fj0_coder_7d493_14 1)
  else
    (fj0_coder_7d493_14 0)
def fj0_length_8abf5 : Option (Int32) :=
  bd (fj0_coder_7d493) fun r_1 =>
  some (8 >>> (r_1 &&& 31))
def fj0_indexOf_7cf53_36 (z0 : Int32) : Option (Int32) :=
  some z0
def fj0_indexOf_7cf53 (x1 : Int32) (x2 : Int32) : Option (Int32) :=
  bd (fj0_isLatin1_aae02) fun r_1 =>
  if r_1 = 0 then
    (bd (fj0_length_8abf5) fun r_4 =>
    none)
  else
    (bd (fj0_length_8abf5) fun r_6 =>
    bd (fj1_indexOf_4cfef x1 x2 r_6) fun r_8 =>
    fj0_indexOf_7cf53_36 r_8)
def fj0_indexOf_0f7a4 (x1 : Int32) : Option (Int32) :=
  bd (fj0_indexOf_7cf53 x1 0) fun r_1 =>
  some r_1
