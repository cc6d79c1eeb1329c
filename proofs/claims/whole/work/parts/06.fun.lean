/-! 06: the pure functions of the methods -/
def f_M_lays  (x1 : Int32) (x2 : Int32) (x3 : Int32) (d : Dt) : Option Dt :=
  gd (inb ((13 + (11 * x1)) + x2) 187) <|
  some (wr d 293 ((13 + (11 * x1)) + x2).toNatClampNeg x3)
def f_M_fails  (x1 : Int32) (d : Dt) : Option (Int32 × Dt) :=
  if x1 ≤ 0 then
    some (0, (wr d 292 7 x1))
  else
    some (1, (wr d 292 7 x1))
def st_M_copies_3  (x1 : Int32) (x3 : Int32) (x4 : Int32) (d : Dt) : Option ((Int32 × Dt) ⊕ Dt) :=
  if 187 ≤ x4 then
    ir (
      some d)
  else
    gd (inb (x1 + x4) 187) <|
    gd (inb (x3 + x4) 1496) <|
    some (.inl ((x4 + 1), (wr d 294 (x3 + x4).toNatClampNeg (d 293 (x1 + x4).toNatClampNeg))))
def f_M_copies_3  (x1 : Int32) (x3 : Int32) (x4 : Int32) (d : Dt) : Option Dt := iter fu (fun s => st_M_copies_3 x1 x3 s.1 s.2) (x4, d)
def f_M_copies  (x1 : Int32) (x3 : Int32) (d : Dt) : Option Dt :=
  f_M_copies_3 x1 x3 0 d
def f_M_keeps_63    (d : Dt) : Option Dt :=
  ob1 (f_M_copies 0 (187 * (d 292 5)) d) fun d1 =>
  some (wr d1 292 5 ((d1 292 5) + 1))
def st_M_keeps_24  (x2 : Int32) (d : Dt) : Option ((Int32 × Dt) ⊕ Dt) :=
  if 1309 ≤ x2 then
    ir (
      f_M_keeps_63 (wr d 292 5 ((d 292 5) - 1)))
  else
    gd (inb (x2 + 187) 1496) <|
    gd (inb x2 1496) <|
    some (.inl ((x2 + 1), (wr d 294 x2.toNatClampNeg (d 294 (x2 + 187).toNatClampNeg))))
def f_M_keeps_24  (x2 : Int32) (d : Dt) : Option Dt := iter fu (fun s => st_M_keeps_24  s.1 s.2) (x2, d)
def f_M_keeps   (d : Dt) : Option Dt :=
  if ((wr d 292 7 0) 292 6) = 0 then
    if ((wr d 292 7 0) 292 5) = 8 then
      f_M_keeps_24 0 (wr d 292 7 0)
    else
      f_M_keeps_63 (wr d 292 7 0)
  else
    some (wr d 292 7 0)
def st_M_addLantern_52  (x1 : Int32) (x2 : Int32) (d : Dt) : Option ((Int32 × Dt) ⊕ (Int32 × Dt)) :=
  if 11 ≤ x2 then
    ir (
      ob1 (f_M_lays x1 0 9 d) fun d1 =>
      some (x1, d1))
  else
    ob1 (f_M_lays x1 x2 0 d) fun d2 =>
    some (.inl ((x2 + 1), d2))
def f_M_addLantern_52  (x1 : Int32) (x2 : Int32) (d : Dt) : Option (Int32 × Dt) := iter fu (fun s => st_M_addLantern_52 x1 s.1 s.2) (x2, d)
def f_M_addLantern_17   (v1 : Int32) (d : Dt) : Option (Int32 × Dt) :=
  ob2 (f_M_fails v1 d) fun r3 d4 =>
  if r3 = 0 then
    ob1 (f_M_keeps d4) fun d5 =>
    f_M_addLantern_52 (d5 293 0) 0 (wr d5 293 0 ((d5 293 0) + 1))
  else
    some (0, d4)
def f_M_addLantern   (d : Dt) : Option (Int32 × Dt) :=
  if (d 293 0) = 8 then
    f_M_addLantern_17 1 d
  else
    f_M_addLantern_17 0 d
def f_M_of  (x1 : Int32) (x2 : Int32) (d : Dt) : Option Int32 :=
  gd (inb ((13 + (11 * x1)) + x2) 187) <|
  some (d 293 ((13 + (11 * x1)) + x2).toNatClampNeg)
def f_M_in  (x0 : Int32) (x1 : Int32) (x2 : Int32) (d : Dt) : Option Int32 :=
  if x0 < x1 then
    some 0
  else
    if x2 < x0 then
      some 0
    else
      some 1
def f_M_isLantern  (x1 : Int32) (d : Dt) : Option Int32 :=
  ob1 (f_M_in x1 0 ((d 293 0) - 1) d) fun r1 =>
  gd (nar .boolean r1) <|
  some r1
def f_M_admit_38  (x1 : Int32) (x3 : Int32) (v1 : Int32) (d : Dt) : Option (Int32 × Dt) :=
  ob2 (f_M_fails v1 d) fun r1 d2 =>
  if r1 = 0 then
    ob1 (f_M_of x1 1 d2) fun r3 =>
    ob1 (f_M_keeps d2) fun d4 =>
    ob1 (f_M_lays x1 1 x3 d4) fun d5 =>
    if r3 ≤ 0 then
      some (0, d5)
    else
      some (1, d5)
  else
    some (0, d2)
def f_M_admit_9  (x1 : Int32) (v0 : Int32) (d : Dt) : Option (Int32 × Dt) :=
  ob1 (f_M_isLantern x1 d) fun r6 =>
  if r6 = 0 then
    f_M_admit_38 x1 v0 1 d
  else
    ob1 (f_M_of x1 1 d) fun r7 =>
    if r7 = v0 then
      f_M_admit_38 x1 v0 2 d
    else
      f_M_admit_38 x1 v0 0 d
def f_M_admit  (x1 : Int32) (x2 : Int32) (d : Dt) : Option (Int32 × Dt) :=
  if x2 = 0 then
    f_M_admit_9 x1 2 d
  else
    f_M_admit_9 x1 1 d
def f_M_says  (x1 : Int32) (x2 : Int32) (d : Dt) : Option Int32 :=
  gd (inb ((151 + (3 * x1)) + x2) 187) <|
  some (d 293 ((151 + (3 * x1)) + x2).toNatClampNeg)
def f_M_isTrue_45   (v0 : Int32) (v1 : Int32) (d : Dt) : Option Int32 :=
  if v0 = v1 then
    some 1
  else
    some 0
def f_M_isTrue_28  (x1 : Int32) (v0 : Int32) (d : Dt) : Option Int32 :=
  ob1 (f_M_says x1 2 d) fun r1 =>
  if r1 = 1 then
    f_M_isTrue_45 v0 1 d
  else
    f_M_isTrue_45 v0 0 d
def f_M_isTrue  (x1 : Int32) (x2 : Int32) (d : Dt) : Option Int32 :=
  ob1 (f_M_says x1 0 d) fun r2 =>
  ob1 (f_M_says x1 1 d) fun r3 =>
  if ((x2 >>> (r2 &&& 31)) &&& 1) = ((x2 >>> (r3 &&& 31)) &&& 1) then
    f_M_isTrue_28 x1 1 d
  else
    f_M_isTrue_28 x1 0 d
def st_M_areTrue_2  (x1 : Int32) (x2 : Int32) (x3 : Int32) (d : Dt) : Option ((Int32) ⊕ Int32) :=
  if (d 293 4) ≤ x3 then
    ir (
      some 1)
  else
    ob1 (f_M_says x3 0 d) fun r1 =>
    if ((x1 >>> (r1 &&& 31)) &&& 1) = 1 then
      ob1 (f_M_isTrue x3 x2 d) fun r2 =>
      if r2 = 0 then
        ir (
          some 0)
      else
        some (.inl (x3 + 1))
    else
      some (.inl (x3 + 1))
def f_M_areTrue_2  (x1 : Int32) (x2 : Int32) (x3 : Int32) (d : Dt) : Option Int32 := iter fu (fun s => st_M_areTrue_2 x1 x2 s d) x3
def f_M_areTrue  (x1 : Int32) (x2 : Int32) (d : Dt) : Option Int32 :=
  f_M_areTrue_2 x1 x2 0 d
def st_M_bits_4  (x0 : Int32) (x1 : Int32) (x2 : Int32) (d : Dt) : Option ((Int32 × Int32) ⊕ Int32) :=
  if 12 ≤ x2 then
    ir (
      some x1)
  else
    some (.inl ((x1 + ((x0 >>> (x2 &&& 31)) &&& 1)), (x2 + 1)))
def f_M_bits_4  (x0 : Int32) (x1 : Int32) (x2 : Int32) (d : Dt) : Option Int32 := iter fu (fun s => st_M_bits_4 x0 s.1 s.2 d) (x1, x2)
def f_M_bits  (x0 : Int32) (d : Dt) : Option Int32 :=
  f_M_bits_4 x0 0 0 d
def f_M_brief  (x1 : Int32) (x2 : Int32) (d : Dt) : Option Int32 :=
  gd (inb ((101 + (5 * x1)) + x2) 187) <|
  some (d 293 ((101 + (5 * x1)) + x2).toNatClampNeg)
def f_M_briefAt_22  (x1 : Int32) (v1 : Int32) (d : Dt) : Option (Int32 × Dt) :=
  ob2 (f_M_fails v1 d) fun r1 d2 =>
  if r1 = 0 then
    ob1 (f_M_brief x1 0 d2) fun r3 =>
    some (r3, d2)
  else
    some (0, d2)
def f_M_briefAt  (x1 : Int32) (d : Dt) : Option (Int32 × Dt) :=
  ob1 (f_M_in x1 0 ((d 293 3) - 1) d) fun r4 =>
  if r4 = 0 then
    f_M_briefAt_22 x1 1 d
  else
    f_M_briefAt_22 x1 0 d
def f_M_briefCount   (d : Dt) : Option (Int32 × Dt) :=
  some (((wr d 292 7 0) 293 3), (wr d 292 7 0))
def f_M_isNone_14   (v1 : Int32) (d : Dt) : Option (Int32 × Dt) :=
  ob2 (f_M_fails v1 d) fun r1 d2 =>
  gd (nar .boolean r1) <|
  some (r1, d2)
def f_M_isNone  (x1 : Int32) (d : Dt) : Option (Int32 × Dt) :=
  ob1 (f_M_isLantern x1 d) fun r3 =>
  if r3 = 0 then
    f_M_isNone_14 1 d
  else
    f_M_isNone_14 0 d
def f_M_brightness  (x1 : Int32) (d : Dt) : Option (Int32 × Dt) :=
  ob2 (f_M_isNone x1 d) fun r1 d2 =>
  if r1 = 0 then
    ob1 (f_M_of x1 0 d2) fun r3 =>
    some (r3, d2)
  else
    some (0, d2)
def f_M_makeStatement_113   (v1 : Int32) (v2 : Int32) (d : Dt) : Option (Int32 × Dt) :=
  gd (inb v1 187) <|
  some ((((wr (wr d 293 v1.toNatClampNeg v2) 293 4 (((wr d 293 v1.toNatClampNeg v2) 293 4) + 1)) 293 4) - 1), (wr (wr d 293 v1.toNatClampNeg v2) 293 4 (((wr d 293 v1.toNatClampNeg v2) 293 4) + 1)))
def f_M_makeStatement_46  (x1 : Int32) (x2 : Int32) (x3 : Int32) (v1 : Int32) (d : Dt) : Option (Int32 × Dt) :=
  ob2 (f_M_fails v1 d) fun r1 d2 =>
  if r1 = 0 then
    ob1 (f_M_keeps d2) fun d3 =>
    gd (inb ((151 + (3 * (d3 293 4))) + 0) 187) <|
    gd (inb ((151 + (3 * (d3 293 4))) + 1) 187) <|
    if x3 = 0 then
      f_M_makeStatement_113 ((151 + (3 * (d3 293 4))) + 2) 0 (wr (wr d3 293 ((151 + (3 * (d3 293 4))) + 0).toNatClampNeg x1) 293 ((151 + (3 * (d3 293 4))) + 1).toNatClampNeg x2)
    else
      f_M_makeStatement_113 ((151 + (3 * (d3 293 4))) + 2) 1 (wr (wr d3 293 ((151 + (3 * (d3 293 4))) + 0).toNatClampNeg x1) 293 ((151 + (3 * (d3 293 4))) + 1).toNatClampNeg x2)
  else
    some (0, d2)
def f_M_makeStatement_17  (x1 : Int32) (x2 : Int32) (x3 : Int32)  (d : Dt) : Option (Int32 × Dt) :=
  f_M_makeStatement_46 x1 x2 x3 1 d
def f_M_makeStatement  (x1 : Int32) (x2 : Int32) (x3 : Int32) (d : Dt) : Option (Int32 × Dt) :=
  ob1 (f_M_isLantern x1 d) fun r4 =>
  if r4 = 0 then
    f_M_makeStatement_17 x1 x2 x3 d
  else
    ob1 (f_M_isLantern x2 d) fun r5 =>
    if r5 = 0 then
      f_M_makeStatement_17 x1 x2 x3 d
    else
      if x1 = x2 then
        f_M_makeStatement_46 x1 x2 x3 2 d
      else
        if (d 293 4) = 12 then
          f_M_makeStatement_46 x1 x2 x3 3 d
        else
          f_M_makeStatement_46 x1 x2 x3 0 d
def f_M_file_64  (x1 : Int32) (x2 : Int32) (x3 : Int32) (x4 : Int32) (v1 : Int32) (d : Dt) : Option (Int32 × Dt) :=
  ob2 (f_M_fails v1 d) fun r1 d2 =>
  if r1 = 0 then
    ob1 (f_M_keeps d2) fun d3 =>
    gd (inb ((101 + (5 * (d3 293 3))) + 0) 187) <|
    gd (inb ((101 + (5 * (d3 293 3))) + 1) 187) <|
    gd (inb ((101 + (5 * (d3 293 3))) + 2) 187) <|
    gd (inb ((101 + (5 * (d3 293 3))) + 3) 187) <|
    gd (inb ((101 + (5 * (d3 293 3))) + 4) 187) <|
    some ((((wr (wr (wr (wr (wr (wr (wr (wr d3 293 ((101 + (5 * (d3 293 3))) + 0).toNatClampNeg (d3 293 2)) 293 ((101 + (5 * (d3 293 3))) + 1).toNatClampNeg x1) 293 ((101 + (5 * (d3 293 3))) + 2).toNatClampNeg (((wr (wr d3 293 ((101 + (5 * (d3 293 3))) + 0).toNatClampNeg (d3 293 2)) 293 ((101 + (5 * (d3 293 3))) + 1).toNatClampNeg x1) 293 1) + x2)) 293 ((101 + (5 * (d3 293 3))) + 3).toNatClampNeg x3) 293 ((101 + (5 * (d3 293 3))) + 4).toNatClampNeg x4) 293 3 (((wr (wr (wr (wr (wr d3 293 ((101 + (5 * (d3 293 3))) + 0).toNatClampNeg (d3 293 2)) 293 ((101 + (5 * (d3 293 3))) + 1).toNatClampNeg x1) 293 ((101 + (5 * (d3 293 3))) + 2).toNatClampNeg (((wr (wr d3 293 ((101 + (5 * (d3 293 3))) + 0).toNatClampNeg (d3 293 2)) 293 ((101 + (5 * (d3 293 3))) + 1).toNatClampNeg x1) 293 1) + x2)) 293 ((101 + (5 * (d3 293 3))) + 3).toNatClampNeg x3) 293 ((101 + (5 * (d3 293 3))) + 4).toNatClampNeg x4) 293 3) + 1)) 293 2 (((wr (wr (wr (wr (wr (wr d3 293 ((101 + (5 * (d3 293 3))) + 0).toNatClampNeg (d3 293 2)) 293 ((101 + (5 * (d3 293 3))) + 1).toNatClampNeg x1) 293 ((101 + (5 * (d3 293 3))) + 2).toNatClampNeg (((wr (wr d3 293 ((101 + (5 * (d3 293 3))) + 0).toNatClampNeg (d3 293 2)) 293 ((101 + (5 * (d3 293 3))) + 1).toNatClampNeg x1) 293 1) + x2)) 293 ((101 + (5 * (d3 293 3))) + 3).toNatClampNeg x3) 293 ((101 + (5 * (d3 293 3))) + 4).toNatClampNeg x4) 293 3 (((wr (wr (wr (wr (wr d3 293 ((101 + (5 * (d3 293 3))) + 0).toNatClampNeg (d3 293 2)) 293 ((101 + (5 * (d3 293 3))) + 1).toNatClampNeg x1) 293 ((101 + (5 * (d3 293 3))) + 2).toNatClampNeg (((wr (wr d3 293 ((101 + (5 * (d3 293 3))) + 0).toNatClampNeg (d3 293 2)) 293 ((101 + (5 * (d3 293 3))) + 1).toNatClampNeg x1) 293 1) + x2)) 293 ((101 + (5 * (d3 293 3))) + 3).toNatClampNeg x3) 293 ((101 + (5 * (d3 293 3))) + 4).toNatClampNeg x4) 293 3) + 1)) 293 2) + 1)) 293 6 (((wr (wr (wr (wr (wr (wr (wr d3 293 ((101 + (5 * (d3 293 3))) + 0).toNatClampNeg (d3 293 2)) 293 ((101 + (5 * (d3 293 3))) + 1).toNatClampNeg x1) 293 ((101 + (5 * (d3 293 3))) + 2).toNatClampNeg (((wr (wr d3 293 ((101 + (5 * (d3 293 3))) + 0).toNatClampNeg (d3 293 2)) 293 ((101 + (5 * (d3 293 3))) + 1).toNatClampNeg x1) 293 1) + x2)) 293 ((101 + (5 * (d3 293 3))) + 3).toNatClampNeg x3) 293 ((101 + (5 * (d3 293 3))) + 4).toNatClampNeg x4) 293 3 (((wr (wr (wr (wr (wr d3 293 ((101 + (5 * (d3 293 3))) + 0).toNatClampNeg (d3 293 2)) 293 ((101 + (5 * (d3 293 3))) + 1).toNatClampNeg x1) 293 ((101 + (5 * (d3 293 3))) + 2).toNatClampNeg (((wr (wr d3 293 ((101 + (5 * (d3 293 3))) + 0).toNatClampNeg (d3 293 2)) 293 ((101 + (5 * (d3 293 3))) + 1).toNatClampNeg x1) 293 1) + x2)) 293 ((101 + (5 * (d3 293 3))) + 3).toNatClampNeg x3) 293 ((101 + (5 * (d3 293 3))) + 4).toNatClampNeg x4) 293 3) + 1)) 293 2 (((wr (wr (wr (wr (wr (wr d3 293 ((101 + (5 * (d3 293 3))) + 0).toNatClampNeg (d3 293 2)) 293 ((101 + (5 * (d3 293 3))) + 1).toNatClampNeg x1) 293 ((101 + (5 * (d3 293 3))) + 2).toNatClampNeg (((wr (wr d3 293 ((101 + (5 * (d3 293 3))) + 0).toNatClampNeg (d3 293 2)) 293 ((101 + (5 * (d3 293 3))) + 1).toNatClampNeg x1) 293 1) + x2)) 293 ((101 + (5 * (d3 293 3))) + 3).toNatClampNeg x3) 293 ((101 + (5 * (d3 293 3))) + 4).toNatClampNeg x4) 293 3 (((wr (wr (wr (wr (wr d3 293 ((101 + (5 * (d3 293 3))) + 0).toNatClampNeg (d3 293 2)) 293 ((101 + (5 * (d3 293 3))) + 1).toNatClampNeg x1) 293 ((101 + (5 * (d3 293 3))) + 2).toNatClampNeg (((wr (wr d3 293 ((101 + (5 * (d3 293 3))) + 0).toNatClampNeg (d3 293 2)) 293 ((101 + (5 * (d3 293 3))) + 1).toNatClampNeg x1) 293 1) + x2)) 293 ((101 + (5 * (d3 293 3))) + 3).toNatClampNeg x3) 293 ((101 + (5 * (d3 293 3))) + 4).toNatClampNeg x4) 293 3) + 1)) 293 2) + 1)) 293 6) + x3)) 293 2) - 1), (wr (wr (wr (wr (wr (wr (wr (wr d3 293 ((101 + (5 * (d3 293 3))) + 0).toNatClampNeg (d3 293 2)) 293 ((101 + (5 * (d3 293 3))) + 1).toNatClampNeg x1) 293 ((101 + (5 * (d3 293 3))) + 2).toNatClampNeg (((wr (wr d3 293 ((101 + (5 * (d3 293 3))) + 0).toNatClampNeg (d3 293 2)) 293 ((101 + (5 * (d3 293 3))) + 1).toNatClampNeg x1) 293 1) + x2)) 293 ((101 + (5 * (d3 293 3))) + 3).toNatClampNeg x3) 293 ((101 + (5 * (d3 293 3))) + 4).toNatClampNeg x4) 293 3 (((wr (wr (wr (wr (wr d3 293 ((101 + (5 * (d3 293 3))) + 0).toNatClampNeg (d3 293 2)) 293 ((101 + (5 * (d3 293 3))) + 1).toNatClampNeg x1) 293 ((101 + (5 * (d3 293 3))) + 2).toNatClampNeg (((wr (wr d3 293 ((101 + (5 * (d3 293 3))) + 0).toNatClampNeg (d3 293 2)) 293 ((101 + (5 * (d3 293 3))) + 1).toNatClampNeg x1) 293 1) + x2)) 293 ((101 + (5 * (d3 293 3))) + 3).toNatClampNeg x3) 293 ((101 + (5 * (d3 293 3))) + 4).toNatClampNeg x4) 293 3) + 1)) 293 2 (((wr (wr (wr (wr (wr (wr d3 293 ((101 + (5 * (d3 293 3))) + 0).toNatClampNeg (d3 293 2)) 293 ((101 + (5 * (d3 293 3))) + 1).toNatClampNeg x1) 293 ((101 + (5 * (d3 293 3))) + 2).toNatClampNeg (((wr (wr d3 293 ((101 + (5 * (d3 293 3))) + 0).toNatClampNeg (d3 293 2)) 293 ((101 + (5 * (d3 293 3))) + 1).toNatClampNeg x1) 293 1) + x2)) 293 ((101 + (5 * (d3 293 3))) + 3).toNatClampNeg x3) 293 ((101 + (5 * (d3 293 3))) + 4).toNatClampNeg x4) 293 3 (((wr (wr (wr (wr (wr d3 293 ((101 + (5 * (d3 293 3))) + 0).toNatClampNeg (d3 293 2)) 293 ((101 + (5 * (d3 293 3))) + 1).toNatClampNeg x1) 293 ((101 + (5 * (d3 293 3))) + 2).toNatClampNeg (((wr (wr d3 293 ((101 + (5 * (d3 293 3))) + 0).toNatClampNeg (d3 293 2)) 293 ((101 + (5 * (d3 293 3))) + 1).toNatClampNeg x1) 293 1) + x2)) 293 ((101 + (5 * (d3 293 3))) + 3).toNatClampNeg x3) 293 ((101 + (5 * (d3 293 3))) + 4).toNatClampNeg x4) 293 3) + 1)) 293 2) + 1)) 293 6 (((wr (wr (wr (wr (wr (wr (wr d3 293 ((101 + (5 * (d3 293 3))) + 0).toNatClampNeg (d3 293 2)) 293 ((101 + (5 * (d3 293 3))) + 1).toNatClampNeg x1) 293 ((101 + (5 * (d3 293 3))) + 2).toNatClampNeg (((wr (wr d3 293 ((101 + (5 * (d3 293 3))) + 0).toNatClampNeg (d3 293 2)) 293 ((101 + (5 * (d3 293 3))) + 1).toNatClampNeg x1) 293 1) + x2)) 293 ((101 + (5 * (d3 293 3))) + 3).toNatClampNeg x3) 293 ((101 + (5 * (d3 293 3))) + 4).toNatClampNeg x4) 293 3 (((wr (wr (wr (wr (wr d3 293 ((101 + (5 * (d3 293 3))) + 0).toNatClampNeg (d3 293 2)) 293 ((101 + (5 * (d3 293 3))) + 1).toNatClampNeg x1) 293 ((101 + (5 * (d3 293 3))) + 2).toNatClampNeg (((wr (wr d3 293 ((101 + (5 * (d3 293 3))) + 0).toNatClampNeg (d3 293 2)) 293 ((101 + (5 * (d3 293 3))) + 1).toNatClampNeg x1) 293 1) + x2)) 293 ((101 + (5 * (d3 293 3))) + 3).toNatClampNeg x3) 293 ((101 + (5 * (d3 293 3))) + 4).toNatClampNeg x4) 293 3) + 1)) 293 2 (((wr (wr (wr (wr (wr (wr d3 293 ((101 + (5 * (d3 293 3))) + 0).toNatClampNeg (d3 293 2)) 293 ((101 + (5 * (d3 293 3))) + 1).toNatClampNeg x1) 293 ((101 + (5 * (d3 293 3))) + 2).toNatClampNeg (((wr (wr d3 293 ((101 + (5 * (d3 293 3))) + 0).toNatClampNeg (d3 293 2)) 293 ((101 + (5 * (d3 293 3))) + 1).toNatClampNeg x1) 293 1) + x2)) 293 ((101 + (5 * (d3 293 3))) + 3).toNatClampNeg x3) 293 ((101 + (5 * (d3 293 3))) + 4).toNatClampNeg x4) 293 3 (((wr (wr (wr (wr (wr d3 293 ((101 + (5 * (d3 293 3))) + 0).toNatClampNeg (d3 293 2)) 293 ((101 + (5 * (d3 293 3))) + 1).toNatClampNeg x1) 293 ((101 + (5 * (d3 293 3))) + 2).toNatClampNeg (((wr (wr d3 293 ((101 + (5 * (d3 293 3))) + 0).toNatClampNeg (d3 293 2)) 293 ((101 + (5 * (d3 293 3))) + 1).toNatClampNeg x1) 293 1) + x2)) 293 ((101 + (5 * (d3 293 3))) + 3).toNatClampNeg x3) 293 ((101 + (5 * (d3 293 3))) + 4).toNatClampNeg x4) 293 3) + 1)) 293 2) + 1)) 293 6) + x3)))
  else
    some (0, d2)
def f_M_file_44  (x1 : Int32) (x2 : Int32) (x3 : Int32) (x4 : Int32)  (d : Dt) : Option (Int32 × Dt) :=
  f_M_file_64 x1 x2 x3 x4 2 d
def f_M_file  (x1 : Int32) (x2 : Int32) (x3 : Int32) (x4 : Int32) (d : Dt) : Option (Int32 × Dt) :=
  ob1 (f_M_isLantern x1 d) fun r4 =>
  if r4 = 0 then
    f_M_file_64 x1 x2 x3 x4 1 d
  else
    ob1 (f_M_in x2 1 12 d) fun r5 =>
    if r5 = 0 then
      f_M_file_44 x1 x2 x3 x4 d
    else
      ob1 (f_M_in x3 1 50 d) fun r6 =>
      if r6 = 0 then
        f_M_file_44 x1 x2 x3 x4 d
      else
        ob1 (f_M_in x4 1 9 d) fun r7 =>
        if r7 = 0 then
          f_M_file_44 x1 x2 x3 x4 d
        else
          if (d 293 3) = 10 then
            f_M_file_64 x1 x2 x3 x4 3 d
          else
            f_M_file_64 x1 x2 x3 x4 0 d
def st_M_goes_54  (x2 : Int32) (d : Dt) : Option ((Int32 × Dt) ⊕ Dt) :=
  if 5 ≤ x2 then
    ir (
      some d)
  else
    gd (inb ((101 + (5 * (d 293 3))) + x2) 187) <|
    some (.inl ((x2 + 1), (wr d 293 ((101 + (5 * (d 293 3))) + x2).toNatClampNeg 0)))
def f_M_goes_54  (x2 : Int32) (d : Dt) : Option Dt := iter fu (fun s => st_M_goes_54  s.1 s.2) (x2, d)
def st_M_goes_17  (x2 : Int32) (d : Dt) : Option ((Int32 × Dt) ⊕ Dt) :=
  if (101 + (5 * (d 293 3))) ≤ x2 then
    ir (
      f_M_goes_54 0 d)
  else
    gd (inb (x2 + 5) 187) <|
    gd (inb x2 187) <|
    some (.inl ((x2 + 1), (wr d 293 x2.toNatClampNeg (d 293 (x2 + 5).toNatClampNeg))))
def f_M_goes_17  (x2 : Int32) (d : Dt) : Option Dt := iter fu (fun s => st_M_goes_17  s.1 s.2) (x2, d)
def f_M_goes  (x1 : Int32) (d : Dt) : Option Dt :=
  f_M_goes_17 (101 + (5 * x1)) (wr d 293 3 ((d 293 3) - 1))
def st_M_placeOf_2  (x1 : Int32) (x2 : Int32) (d : Dt) : Option ((Int32) ⊕ Int32) :=
  if (d 293 3) ≤ x2 then
    ir (
      some (-1))
  else
    ob1 (f_M_brief x2 0 d) fun r1 =>
    if r1 = x1 then
      ir (
        some x2)
    else
      some (.inl (x2 + 1))
def f_M_placeOf_2  (x1 : Int32) (x2 : Int32) (d : Dt) : Option Int32 := iter fu (fun s => st_M_placeOf_2 x1 s d) x2
def f_M_placeOf  (x1 : Int32) (d : Dt) : Option Int32 :=
  f_M_placeOf_2 x1 0 d
def f_M_withdraw_16  (x2 : Int32) (v1 : Int32) (d : Dt) : Option (Int32 × Dt) :=
  ob2 (f_M_fails v1 d) fun r1 d2 =>
  if r1 = 0 then
    ob1 (f_M_keeps d2) fun d3 =>
    ob1 (f_M_brief x2 3 d3) fun r4 =>
    ob1 (f_M_goes x2 (wr d3 293 5 ((d3 293 5) + (r4 / 2)))) fun d5 =>
    some ((r4 / 2), d5)
  else
    some (0, d2)
def f_M_withdraw  (x1 : Int32) (d : Dt) : Option (Int32 × Dt) :=
  ob1 (f_M_placeOf x1 d) fun r6 =>
  if 0 ≤ r6 then
    f_M_withdraw_16 r6 0 d
  else
    f_M_withdraw_16 r6 1 d
def f_M_isStatement  (x1 : Int32) (d : Dt) : Option Int32 :=
  ob1 (f_M_in x1 0 ((d 293 4) - 1) d) fun r1 =>
  gd (nar .boolean r1) <|
  some r1
def st_M_dropStatement_86  (x2 : Int32) (d : Dt) : Option ((Int32 × Dt) ⊕ (Int32 × Dt)) :=
  if 3 ≤ x2 then
    ir (
      some ((d 293 4), d))
  else
    gd (inb ((151 + (3 * (d 293 4))) + x2) 187) <|
    some (.inl ((x2 + 1), (wr d 293 ((151 + (3 * (d 293 4))) + x2).toNatClampNeg 0)))
def f_M_dropStatement_86  (x2 : Int32) (d : Dt) : Option (Int32 × Dt) := iter fu (fun s => st_M_dropStatement_86  s.1 s.2) (x2, d)
def st_M_dropStatement_48  (x2 : Int32) (d : Dt) : Option ((Int32 × Dt) ⊕ (Int32 × Dt)) :=
  if (151 + (3 * (d 293 4))) ≤ x2 then
    ir (
      f_M_dropStatement_86 0 d)
  else
    gd (inb (x2 + 3) 187) <|
    gd (inb x2 187) <|
    some (.inl ((x2 + 1), (wr d 293 x2.toNatClampNeg (d 293 (x2 + 3).toNatClampNeg))))
def f_M_dropStatement_48  (x2 : Int32) (d : Dt) : Option (Int32 × Dt) := iter fu (fun s => st_M_dropStatement_48  s.1 s.2) (x2, d)
def f_M_dropStatement_14  (x1 : Int32) (v1 : Int32) (d : Dt) : Option (Int32 × Dt) :=
  ob2 (f_M_fails v1 d) fun r1 d2 =>
  if r1 = 0 then
    ob1 (f_M_keeps d2) fun d3 =>
    f_M_dropStatement_48 (151 + (3 * x1)) (wr d3 293 4 ((d3 293 4) - 1))
  else
    some (0, d2)
def f_M_dropStatement  (x1 : Int32) (d : Dt) : Option (Int32 × Dt) :=
  ob1 (f_M_isStatement x1 d) fun r4 =>
  if r4 = 0 then
    f_M_dropStatement_14 x1 1 d
  else
    f_M_dropStatement_14 x1 0 d
def st_M_ends_11  (x1 : Int32) (x2 : Int32) (x3 : Int32) (d : Dt) : Option ((Int32 × Dt) ⊕ Dt) :=
  if x2 ≤ x3 then
    ir (
      ob1 (f_M_lays x1 (3 + x2) 0 d) fun d1 =>
      ob1 (f_M_lays x1 2 x2 d1) fun d2 =>
      some d2)
  else
    ob1 (f_M_of x1 ((3 + x3) + 1) d) fun r3 =>
    ob1 (f_M_lays x1 (3 + x3) r3 d) fun d4 =>
    some (.inl ((x3 + 1), d4))
def f_M_ends_11  (x1 : Int32) (x2 : Int32) (x3 : Int32) (d : Dt) : Option Dt := iter fu (fun s => st_M_ends_11 x1 x2 s.1 s.2) (x3, d)
def f_M_ends  (x1 : Int32) (d : Dt) : Option Dt :=
  ob1 (f_M_of x1 2 d) fun r5 =>
  f_M_ends_11 x1 (r5 - 1) 0 d
def f_M_pardon_27  (x1 : Int32) (v1 : Int32) (d : Dt) : Option (Int32 × Dt) :=
  ob2 (f_M_fails v1 d) fun r1 d2 =>
  if r1 = 0 then
    ob1 (f_M_of x1 3 d2) fun r3 =>
    ob1 (f_M_keeps d2) fun d4 =>
    ob1 (f_M_ends x1 d4) fun d5 =>
    some (r3, d5)
  else
    some (0, d2)
def f_M_pardon  (x1 : Int32) (d : Dt) : Option (Int32 × Dt) :=
  ob1 (f_M_isLantern x1 d) fun r6 =>
  if r6 = 0 then
    f_M_pardon_27 x1 1 d
  else
    ob1 (f_M_of x1 2 d) fun r7 =>
    if r7 = 0 then
      f_M_pardon_27 x1 2 d
    else
      f_M_pardon_27 x1 0 d
def f_M_serves_33   (v1 : Int32) (v2 : Int32) (v3 : Int32) (d : Dt) : Option Dt :=
  ob1 (f_M_lays v1 v2 v3 d) fun d1 =>
  some d1
def f_M_serves_51  (x1 : Int32) (v1 : Int32) (v2 : Int32) (v3 : Int32) (d : Dt) : Option Dt :=
  ob1 (f_M_lays v1 v2 v3 d) fun d2 =>
  ob1 (f_M_of x1 3 d2) fun r3 =>
  ob1 (f_M_lays x1 3 (r3 - 1) d2) fun d4 =>
  ob1 (f_M_of x1 3 (wr d4 293 12 ((d4 293 12) + 1))) fun r5 =>
  if r5 = 0 then
    ob1 (f_M_ends x1 (wr d4 293 12 ((d4 293 12) + 1))) fun d6 =>
    some d6
  else
    some (wr d4 293 12 ((d4 293 12) + 1))
def f_M_serves  (x1 : Int32) (d : Dt) : Option Dt :=
  ob1 (f_M_of x1 0 d) fun r7 =>
  ob1 (f_M_of x1 2 d) fun r8 =>
  if r8 = 0 then
    if 9 ≤ r7 then
      f_M_serves_33 x1 0 9 d
    else
      f_M_serves_33 x1 0 (r7 + 1) d
  else
    if r7 ≤ 0 then
      f_M_serves_51 x1 x1 0 0 d
    else
      f_M_serves_51 x1 x1 0 (r7 - 1) d
def st_M_isPossible_13  (x1 : Int32) (x2 : Int32) (x3 : Int32) (x4 : Int32) (d : Dt) : Option ((Int32 × Int32) ⊕ ((Int32) ⊕ Int32)) :=
  if (d 293 3) ≤ x4 then
    ir (
      if x3 ≤ x2 then
        some (.inl (x2 + 1))
      else
        ir (
          some 0))
  else
    if ((x1 >>> (x4 &&& 31)) &&& 1) = 1 then
      ob1 (f_M_brief x4 2 d) fun r1 =>
      if ((d 293 1) + x2) < r1 then
        some (.inl ((x3 + 0), (x4 + 1)))
      else
        some (.inl ((x3 + 1), (x4 + 1)))
    else
      some (.inl ((x3 + 0), (x4 + 1)))
def f_M_isPossible_13  (x1 : Int32) (x2 : Int32) (x3 : Int32) (x4 : Int32) (d : Dt) : Option ((Int32) ⊕ Int32) := iter fu (fun s => st_M_isPossible_13 x1 x2 s.1 s.2 d) (x3, x4)
def st_M_isPossible_2  (x1 : Int32) (x2 : Int32) (d : Dt) : Option ((Int32) ⊕ Int32) :=
  if 12 < x2 then
    ir (
      some 1)
  else
    f_M_isPossible_13 x1 x2 0 0 d
def f_M_isPossible_2  (x1 : Int32) (x2 : Int32) (d : Dt) : Option Int32 := iter fu (fun s => st_M_isPossible_2 x1 s d) x2
def f_M_isPossible  (x1 : Int32) (d : Dt) : Option Int32 :=
  f_M_isPossible_2 x1 1 d
def f_M_isDearer  (x1 : Int32) (x2 : Int32) (d : Dt) : Option Int32 :=
  ob1 (f_M_brief x1 3 d) fun r1 =>
  ob1 (f_M_brief x2 3 d) fun r2 =>
  if r1 = r2 then
    ob1 (f_M_brief x1 2 d) fun r3 =>
    ob1 (f_M_brief x2 2 d) fun r4 =>
    if r3 = r4 then
      ob1 (f_M_brief x1 0 d) fun r5 =>
      ob1 (f_M_brief x2 0 d) fun r6 =>
      if r6 ≤ r5 then
        some 0
      else
        some 1
    else
      ob1 (f_M_brief x1 2 d) fun r7 =>
      ob1 (f_M_brief x2 2 d) fun r8 =>
      if r8 ≤ r7 then
        some 0
      else
        some 1
  else
    ob1 (f_M_brief x1 3 d) fun r9 =>
    ob1 (f_M_brief x2 3 d) fun r10 =>
    if r9 ≤ r10 then
      some 0
    else
      some 1
def st_M_plan_22  (x1 : Int32) (x2 : Int32) (x3 : Int32) (x4 : Int32) (x5 : Int32) (d : Dt) : Option ((Int32 × Int32) ⊕ ((Int32 × Int32 × Int32) ⊕ Int32)) :=
  if (d 293 3) ≤ x5 then
    ir (
      ob1 (f_M_isPossible (x2 ||| (1 <<< (x4 &&& 31))) d) fun r1 =>
      if r1 = 0 then
        some (.inl ((x1 ||| (1 <<< (x4 &&& 31))), x2, (x3 + 1)))
      else
        some (.inl ((x1 ||| (1 <<< (x4 &&& 31))), (x2 ||| (1 <<< (x4 &&& 31))), (x3 + 1))))
  else
    if ((x1 >>> (x5 &&& 31)) &&& 1) = 0 then
      if x4 < 0 then
        some (.inl (x5, (x5 + 1)))
      else
        ob1 (f_M_isDearer x5 x4 d) fun r2 =>
        if r2 = 0 then
          some (.inl (x4, (x5 + 1)))
        else
          some (.inl (x5, (x5 + 1)))
    else
      some (.inl (x4, (x5 + 1)))
def f_M_plan_22  (x1 : Int32) (x2 : Int32) (x3 : Int32) (x4 : Int32) (x5 : Int32) (d : Dt) : Option ((Int32 × Int32 × Int32) ⊕ Int32) := iter fu (fun s => st_M_plan_22 x1 x2 x3 s.1 s.2 d) (x4, x5)
def st_M_plan_6  (x1 : Int32) (x2 : Int32) (x3 : Int32) (d : Dt) : Option ((Int32 × Int32 × Int32) ⊕ Int32) :=
  if (d 293 3) ≤ x3 then
    ir (
      some x2)
  else
    f_M_plan_22 x1 x2 x3 (-1) 0 d
def f_M_plan_6  (x1 : Int32) (x2 : Int32) (x3 : Int32) (d : Dt) : Option Int32 := iter fu (fun s => st_M_plan_6  s.1 s.2.1 s.2.2 d) (x1, x2, x3)
def f_M_plan   (d : Dt) : Option Int32 :=
  f_M_plan_6 0 0 0 d
def st_M_hearing_29  (x1 : Int32) (x2 : Int32) (x3 : Int32) (x4 : Int32) (x5 : Int32) (d : Dt) : Option ((Int32 × Int32) ⊕ ((Int32) ⊕ Int32)) :=
  if (d 293 3) ≤ x5 then
    ir (
      if x4 = x2 then
        ir (
          some x3)
      else
        some (.inl (x3 + 1)))
  else
    if ((x1 >>> (x5 &&& 31)) &&& 1) = 1 then
      ob1 (f_M_brief x5 2 d) fun r1 =>
      ob1 (f_M_brief x3 2 d) fun r2 =>
      if r1 < r2 then
        some (.inl ((x4 + 1), (x5 + 1)))
      else
        ob1 (f_M_brief x5 2 d) fun r3 =>
        ob1 (f_M_brief x3 2 d) fun r4 =>
        if r3 = r4 then
          if x3 ≤ x5 then
            some (.inl ((x4 + 0), (x5 + 1)))
          else
            some (.inl ((x4 + 1), (x5 + 1)))
        else
          some (.inl ((x4 + 0), (x5 + 1)))
    else
      some (.inl ((x4 + 0), (x5 + 1)))
def f_M_hearing_29  (x1 : Int32) (x2 : Int32) (x3 : Int32) (x4 : Int32) (x5 : Int32) (d : Dt) : Option ((Int32) ⊕ Int32) := iter fu (fun s => st_M_hearing_29 x1 x2 x3 s.1 s.2 d) (x4, x5)
def st_M_hearing_2  (x1 : Int32) (x2 : Int32) (x3 : Int32) (d : Dt) : Option ((Int32) ⊕ Int32) :=
  if (d 293 3) ≤ x3 then
    ir (
      some (-1))
  else
    if ((x1 >>> (x3 &&& 31)) &&& 1) = 0 then
      some (.inl (x3 + 1))
    else
      f_M_hearing_29 x1 x2 x3 0 0 d
def f_M_hearing_2  (x1 : Int32) (x2 : Int32) (x3 : Int32) (d : Dt) : Option Int32 := iter fu (fun s => st_M_hearing_2 x1 x2 s d) x3
def f_M_hearing  (x1 : Int32) (x2 : Int32) (d : Dt) : Option Int32 :=
  f_M_hearing_2 x1 x2 0 d
def f_M_isAdmitted_59  (x1 : Int32) (x2 : Int32) (x3 : Int32) (v0 : Int32) (v1 : Int32) (d : Dt) : Option ((Int32) ⊕ Int32) :=
  if v0 = v1 then
    some (.inl (x3 + 1))
  else
    ir (
      some 0)
def f_M_isAdmitted_45  (x1 : Int32) (x2 : Int32) (x3 : Int32) (v0 : Int32) (d : Dt) : Option ((Int32) ⊕ Int32) :=
  if ((x2 >>> (x3 &&& 31)) &&& 1) = 1 then
    f_M_isAdmitted_59 x1 x2 x3 v0 1 d
  else
    f_M_isAdmitted_59 x1 x2 x3 v0 0 d
def st_M_isAdmitted_2  (x1 : Int32) (x2 : Int32) (x3 : Int32) (d : Dt) : Option ((Int32) ⊕ Int32) :=
  if (d 293 0) ≤ x3 then
    ir (
      some 1)
  else
    if ((x1 >>> (x3 &&& 31)) &&& 1) = 1 then
      ob1 (f_M_of x3 1 d) fun r1 =>
      if r1 ≤ 0 then
        some (.inl (x3 + 1))
      else
        ob1 (f_M_of x3 1 d) fun r2 =>
        if r2 = 1 then
          f_M_isAdmitted_45 x1 x2 x3 1 d
        else
          f_M_isAdmitted_45 x1 x2 x3 0 d
    else
      some (.inl (x3 + 1))
def f_M_isAdmitted_2  (x1 : Int32) (x2 : Int32) (x3 : Int32) (d : Dt) : Option Int32 := iter fu (fun s => st_M_isAdmitted_2 x1 x2 s d) x3
def f_M_isAdmitted  (x1 : Int32) (x2 : Int32) (d : Dt) : Option Int32 :=
  f_M_isAdmitted_2 x1 x2 0 d
def st_M_group_16  (x3 : Int32) (x2 : Int32) (x4 : Int32) (d : Dt) : Option ((Int32 × Int32) ⊕ ((Int32 × Int32) ⊕ Int32)) :=
  if (d 293 4) ≤ x4 then
    ir (
      some (.inl (x2, x3)))
  else
    ob1 (f_M_says x4 0 d) fun r1 =>
    ob1 (f_M_says x4 1 d) fun r2 =>
    if (x3 &&& ((1 <<< (r1 &&& 31)) ||| (1 <<< (r2 &&& 31)))) = 0 then
      some (.inl (x2, (x4 + 1)))
    else
      some (.inl ((x2 ||| ((1 <<< (r1 &&& 31)) ||| (1 <<< (r2 &&& 31)))), (x4 + 1)))
def f_M_group_16  (x3 : Int32) (x2 : Int32) (x4 : Int32) (d : Dt) : Option ((Int32 × Int32) ⊕ Int32) := iter fu (fun s => st_M_group_16 x3 s.1 s.2 d) (x2, x4)
def st_M_group_6  (x2 : Int32) (x3 : Int32) (d : Dt) : Option ((Int32 × Int32) ⊕ Int32) :=
  if x2 = x3 then
    ir (
      some x2)
  else
    f_M_group_16 x2 x2 0 d
def f_M_group_6  (x2 : Int32) (x3 : Int32) (d : Dt) : Option Int32 := iter fu (fun s => st_M_group_6  s.1 s.2 d) (x2, x3)
def f_M_group  (x1 : Int32) (d : Dt) : Option Int32 :=
  f_M_group_6 (1 <<< (x1 &&& 31)) 0 d
def st_M_judges_14  (x1 : Int32) (x2 : Int32) (x3 : Int32) (x4 : Int32) (x5 : Int32) (d : Dt) : Option ((Int32 × Int32 × Int32) ⊕ Int32) :=
  if (1 <<< ((d 293 0) &&& 31)) ≤ x5 then
    ir (
      if (x3 + x4) = 0 then
        some 3
      else
        if x4 = 0 then
          some 0
        else
          if x3 = 0 then
            some 1
          else
            some 2)
  else
    if (x5 &&& (x2 ^^^ (-1))) = 0 then
      ob1 (f_M_areTrue x2 x5 d) fun r1 =>
      if r1 = 0 then
        some (.inl (x3, x4, (x5 + 1)))
      else
        ob1 (f_M_isAdmitted x2 x5 d) fun r2 =>
        if r2 = 0 then
          some (.inl (x3, x4, (x5 + 1)))
        else
          if ((x5 >>> (x1 &&& 31)) &&& 1) = 1 then
            some (.inl ((x3 + 1), x4, (x5 + 1)))
          else
            some (.inl (x3, (x4 + 1), (x5 + 1)))
    else
      some (.inl (x3, x4, (x5 + 1)))
def f_M_judges_14  (x1 : Int32) (x2 : Int32) (x3 : Int32) (x4 : Int32) (x5 : Int32) (d : Dt) : Option Int32 := iter fu (fun s => st_M_judges_14 x1 x2 s.1 s.2.1 s.2.2 d) (x3, x4, x5)
def f_M_judges  (x1 : Int32) (d : Dt) : Option Int32 :=
  ob1 (f_M_group x1 d) fun r3 =>
  f_M_judges_14 x1 r3 0 0 0 d
def f_M_hears_101  (x1 : Int32)  (d : Dt) : Option Dt :=
  ob1 (f_M_goes x1 d) fun d1 =>
  some d1
def f_M_hears_79  (x1 : Int32) (x2 : Int32)  (d : Dt) : Option Dt :=
  if x2 = 3 then
    ob1 (f_M_brief x1 3 d) fun r2 =>
    f_M_hears_101 x1 (wr d 293 5 ((d 293 5) + (r2 / 2)))
  else
    f_M_hears_101 x1 d
def f_M_hears  (x1 : Int32) (d : Dt) : Option Dt :=
  ob1 (f_M_brief x1 1 d) fun r3 =>
  ob1 (f_M_judges r3 d) fun r4 =>
  ob1 (f_M_brief x1 1 d) fun r5 =>
  gd (inb (7 + r4) 187) <|
  gd (inb (7 + r4) 187) <|
  if r4 = 0 then
    ob1 (f_M_of r5 2 (wr d 293 (7 + r4).toNatClampNeg ((d 293 (7 + r4).toNatClampNeg) + 1))) fun r6 =>
    if 8 ≤ r6 then
      f_M_hears_79 x1 r4 (wr d 293 (7 + r4).toNatClampNeg ((d 293 (7 + r4).toNatClampNeg) + 1))
    else
      ob1 (f_M_of r5 2 (wr d 293 (7 + r4).toNatClampNeg ((d 293 (7 + r4).toNatClampNeg) + 1))) fun r7 =>
      ob1 (f_M_brief x1 4 (wr d 293 (7 + r4).toNatClampNeg ((d 293 (7 + r4).toNatClampNeg) + 1))) fun r8 =>
      ob1 (f_M_lays r5 (3 + r7) r8 (wr d 293 (7 + r4).toNatClampNeg ((d 293 (7 + r4).toNatClampNeg) + 1))) fun d9 =>
      ob1 (f_M_of r5 2 d9) fun r10 =>
      ob1 (f_M_lays r5 2 (r10 + 1) d9) fun d11 =>
      f_M_hears_79 x1 r4 d11
  else
    f_M_hears_79 x1 r4 (wr d 293 (7 + r4).toNatClampNeg ((d 293 (7 + r4).toNatClampNeg) + 1))
def st_M_passes_99  (x1 : Int32) (x2 : Int32) (d : Dt) : Option ((Int32 × Dt) ⊕ (Int32 × Dt)) :=
  if (d 293 0) ≤ x2 then
    ir (
      if x1 < 0 then
        some (0, d)
      else
        some (1, d))
  else
    ob1 (f_M_serves x2 d) fun d1 =>
    some (.inl ((x2 + 1), d1))
def f_M_passes_99  (x1 : Int32) (x2 : Int32) (d : Dt) : Option (Int32 × Dt) := iter fu (fun s => st_M_passes_99 x1 s.1 s.2) (x2, d)
def st_M_passes_38  (x1 : Int32) (x2 : Int32) (d : Dt) : Option ((Int32 × Dt) ⊕ (Int32 × Dt)) :=
  if x2 < 0 then
    ir (
      f_M_passes_99 x1 0 d)
  else
    ob1 (f_M_brief x2 2 d) fun r2 =>
    if r2 ≤ (d 293 1) then
      ob1 (f_M_brief x2 3 d) fun r3 =>
      ob1 (f_M_goes x2 (wr (wr d 293 5 ((d 293 5) + r3)) 293 11 (((wr d 293 5 ((d 293 5) + r3)) 293 11) + 1))) fun d4 =>
      some (.inl ((x2 + (-1)), d4))
    else
      some (.inl ((x2 + (-1)), d))
def f_M_passes_38  (x1 : Int32) (x2 : Int32) (d : Dt) : Option (Int32 × Dt) := iter fu (fun s => st_M_passes_38 x1 s.1 s.2) (x2, d)
def f_M_passes_29  (x1 : Int32)  (d : Dt) : Option (Int32 × Dt) :=
  f_M_passes_38 x1 ((d 293 3) - 1) d
def f_M_passes   (d : Dt) : Option (Int32 × Dt) :=
  ob1 (f_M_plan d) fun r5 =>
  ob1 (f_M_hearing r5 0 d) fun r6 =>
  if r6 < 0 then
    f_M_passes_29 r6 (wr d 293 1 ((d 293 1) + 1))
  else
    ob1 (f_M_hears r6 (wr d 293 1 ((d 293 1) + 1))) fun d7 =>
    f_M_passes_29 r6 d7
def st_M_passDays_36  (x1 : Int32) (x2 : Int32) (x3 : Int32) (d : Dt) : Option ((Int32 × Int32 × Dt) ⊕ (Int32 × Dt)) :=
  if x1 ≤ x3 then
    ir (
      some (x2, d))
  else
    ob2 (f_M_passes d) fun r1 d2 =>
    some (.inl ((x2 + r1), (x3 + 1), d2))
def f_M_passDays_36  (x1 : Int32) (x2 : Int32) (x3 : Int32) (d : Dt) : Option (Int32 × Dt) := iter fu (fun s => st_M_passDays_36 x1 s.1 s.2.1 s.2.2) (x2, x3, d)
def f_M_passDays_16  (x1 : Int32) (v1 : Int32) (d : Dt) : Option (Int32 × Dt) :=
  ob2 (f_M_fails v1 d) fun r3 d4 =>
  if r3 = 0 then
    ob1 (f_M_keeps d4) fun d5 =>
    f_M_passDays_36 x1 0 0 d5
  else
    some (0, d4)
def f_M_passDays  (x1 : Int32) (d : Dt) : Option (Int32 × Dt) :=
  ob1 (f_M_in x1 1 9 d) fun r6 =>
  if r6 = 0 then
    f_M_passDays_16 x1 1 d
  else
    f_M_passDays_16 x1 0 d
def f_M_carries_122   (v1 : Int32) (v2 : Int32) (v3 : Int32) (d : Dt) : Option (Int32 × Dt) :=
  ob2 (f_M_makeStatement v1 v2 v3 d) fun r1 d2 =>
  some (r1, d2)
def f_M_carries_144   (v1 : Int32) (v2 : Int32) (d : Dt) : Option (Int32 × Dt) :=
  ob2 (f_M_admit v1 v2 d) fun r3 d4 =>
  if r3 = 0 then
    some (0, d4)
  else
    some (1, d4)
def f_M_carries  (x1 : Int32) (d : Dt) : Option (Int32 × Dt) :=
  gd (inb (x1 + 1) 155) <|
  gd (inb (x1 + 2) 155) <|
  gd (inb x1 155) <|
  if (d 299 x1.toNatClampNeg) = 0 then
    ob2 (f_M_addLantern d) fun r5 d6 =>
    some (r5, d6)
  else
  if (d 299 x1.toNatClampNeg) = 1 then
    gd (inb (x1 + 3) 155) <|
    gd (inb (x1 + 4) 155) <|
    ob2 (f_M_file (d 299 (x1 + 1).toNatClampNeg) (d 299 (x1 + 2).toNatClampNeg) (d 299 (x1 + 3).toNatClampNeg) (d 299 (x1 + 4).toNatClampNeg) d) fun r7 d8 =>
    some (r7, d8)
  else
  if (d 299 x1.toNatClampNeg) = 2 then
    ob2 (f_M_withdraw (d 299 (x1 + 1).toNatClampNeg) d) fun r9 d10 =>
    some (r9, d10)
  else
  if (d 299 x1.toNatClampNeg) = 3 then
    gd (inb (x1 + 3) 155) <|
    if (d 299 (x1 + 3).toNatClampNeg) = 1 then
      f_M_carries_122 (d 299 (x1 + 1).toNatClampNeg) (d 299 (x1 + 2).toNatClampNeg) 1 d
    else
      f_M_carries_122 (d 299 (x1 + 1).toNatClampNeg) (d 299 (x1 + 2).toNatClampNeg) 0 d
  else
  if (d 299 x1.toNatClampNeg) = 4 then
    ob2 (f_M_dropStatement (d 299 (x1 + 1).toNatClampNeg) d) fun r11 d12 =>
    some (r11, d12)
  else
  if (d 299 x1.toNatClampNeg) = 5 then
    if (d 299 (x1 + 2).toNatClampNeg) = 1 then
      f_M_carries_144 (d 299 (x1 + 1).toNatClampNeg) 1 d
    else
      f_M_carries_144 (d 299 (x1 + 1).toNatClampNeg) 0 d
  else
  if (d 299 x1.toNatClampNeg) = 6 then
    ob2 (f_M_pardon (d 299 (x1 + 1).toNatClampNeg) d) fun r13 d14 =>
    some (r13, d14)
  else
    ob2 (f_M_passDays (d 299 (x1 + 1).toNatClampNeg) d) fun r15 d16 =>
    some (r15, d16)
def f_M_here   (d : Dt) : Option Int32 :=
  if (d 292 9) ≤ (d 292 14) then
    some (-1)
  else
    gd (inb (d 292 14) 60) <|
    some (d 297 (d 292 14).toNatClampNeg)
def f_M_skips  (x1 : Int32) (d : Dt) : Option (Int32 × Dt) :=
  ob1 (f_M_here d) fun r1 =>
  if r1 = x1 then
    some (1, (wr d 292 14 ((d 292 14) + 1)))
  else
    some (0, d)
def f_M_courtCoins   (d : Dt) : Option (Int32 × Dt) :=
  some ((((wr d 292 7 0) 293 6) - ((wr d 292 7 0) 293 5)), (wr d 292 7 0))
def f_M_day   (d : Dt) : Option (Int32 × Dt) :=
  some (((wr d 292 7 0) 293 1), (wr d 292 7 0))
def f_M_daysLeft_27  (x1 : Int32) (v1 : Int32) (d : Dt) : Option (Int32 × Dt) :=
  ob2 (f_M_fails v1 d) fun r1 d2 =>
  if r1 = 0 then
    ob1 (f_M_of x1 3 d2) fun r3 =>
    some (r3, d2)
  else
    some (0, d2)
def f_M_daysLeft  (x1 : Int32) (d : Dt) : Option (Int32 × Dt) :=
  ob1 (f_M_isLantern x1 d) fun r4 =>
  if r4 = 0 then
    f_M_daysLeft_27 x1 1 d
  else
    ob1 (f_M_of x1 2 d) fun r5 =>
    if r5 = 0 then
      f_M_daysLeft_27 x1 2 d
    else
      f_M_daysLeft_27 x1 0 d
def st_M_toServe_4  (x1 : Int32) (x2 : Int32) (x3 : Int32) (d : Dt) : Option ((Int32 × Int32) ⊕ Int32) :=
  ob1 (f_M_of x1 2 d) fun r1 =>
  if r1 ≤ x3 then
    ir (
      some x2)
  else
    ob1 (f_M_of x1 (3 + x3) d) fun r2 =>
    some (.inl ((x2 + r2), (x3 + 1)))
def f_M_toServe_4  (x1 : Int32) (x2 : Int32) (x3 : Int32) (d : Dt) : Option Int32 := iter fu (fun s => st_M_toServe_4 x1 s.1 s.2 d) (x2, x3)
def f_M_toServe  (x1 : Int32) (d : Dt) : Option Int32 :=
  f_M_toServe_4 x1 0 0 d
def f_M_daysUntilFree  (x1 : Int32) (d : Dt) : Option (Int32 × Dt) :=
  ob2 (f_M_isNone x1 d) fun r1 d2 =>
  if r1 = 0 then
    ob1 (f_M_toServe x1 d2) fun r3 =>
    some (r3, d2)
  else
    some (0, d2)
def st_M_digits_25  (x1 : Int32) (x2 : Int32) (x3 : Int32) (d : Dt) : Option ((Int32 × Dt) ⊕ (Int32 × Dt)) :=
  if x2 ≤ x3 then
    ir (
      some (1, d))
  else
    ob1 (f_M_here d) fun r1 =>
    ob1 (f_M_in r1 48 57 d) fun r2 =>
    if r2 = 0 then
      ir (
        some (1, d))
    else
      gd (inb x1 155) <|
      ob1 (f_M_here d) fun r3 =>
      gd (inb x1 155) <|
      some (.inl ((x3 + 1), (wr (wr d 299 x1.toNatClampNeg (((10 * (d 299 x1.toNatClampNeg)) + r3) - 48)) 292 14 (((wr d 299 x1.toNatClampNeg (((10 * (d 299 x1.toNatClampNeg)) + r3) - 48)) 292 14) + 1))))
def f_M_digits_25  (x1 : Int32) (x2 : Int32) (x3 : Int32) (d : Dt) : Option (Int32 × Dt) := iter fu (fun s => st_M_digits_25 x1 x2 s.1 s.2) (x3, d)
def f_M_digits  (x1 : Int32) (x2 : Int32) (d : Dt) : Option (Int32 × Dt) :=
  ob1 (f_M_here d) fun r4 =>
  ob1 (f_M_in r4 48 57 d) fun r5 =>
  if r5 = 0 then
    some (0, d)
  else
    gd (inb x1 155) <|
    f_M_digits_25 x1 x2 0 (wr d 299 x1.toNatClampNeg 0)
def f_M_errorPosition_13   (v1 : Int32) (d : Dt) : Option (Int32 × Dt) :=
  ob2 (f_M_fails v1 d) fun r1 d2 =>
  if r1 = 0 then
    some ((d2 292 10), d2)
  else
    some (0, d2)
def f_M_errorPosition   (d : Dt) : Option (Int32 × Dt) :=
  if 0 ≤ (d 292 10) then
    f_M_errorPosition_13 0 d
  else
    f_M_errorPosition_13 1 d
def st_M_ways_15  (x1 : Int32) (x2 : Int32) (x3 : Int32) (d : Dt) : Option ((Int32 × Int32) ⊕ Int32) :=
  if x1 < x3 then
    ir (
      some x2)
  else
    ob1 (f_M_areTrue x1 x3 d) fun r1 =>
    if r1 = 0 then
      some (.inl ((x2 + 0), (x3 + 1)))
    else
      ob1 (f_M_isAdmitted x1 x3 d) fun r2 =>
      if r2 = 0 then
        some (.inl ((x2 + 0), (x3 + 1)))
      else
        some (.inl ((x2 + 1), (x3 + 1)))
def f_M_ways_15  (x1 : Int32) (x2 : Int32) (x3 : Int32) (d : Dt) : Option Int32 := iter fu (fun s => st_M_ways_15 x1 s.1 s.2 d) (x2, x3)
def f_M_ways   (d : Dt) : Option Int32 :=
  f_M_ways_15 ((1 <<< ((d 293 0) &&& 31)) - 1) 0 0 d
def f_M_explanations   (d : Dt) : Option (Int32 × Dt) :=
  ob1 (f_M_ways (wr d 292 7 0)) fun r1 =>
  some (r1, (wr d 292 7 0))
def f_M_explanationsByTrial   (d : Dt) : Option (Int32 × Dt) :=
  ob1 (f_M_ways (wr d 292 7 0)) fun r1 =>
  some (r1, (wr d 292 7 0))
def f_M_failedCommand_13   (v1 : Int32) (d : Dt) : Option (Int32 × Dt) :=
  ob2 (f_M_fails v1 d) fun r1 d2 =>
  if r1 = 0 then
    some ((d2 292 11), d2)
  else
    some (0, d2)
def f_M_failedCommand   (d : Dt) : Option (Int32 × Dt) :=
  if 0 ≤ (d 292 11) then
    f_M_failedCommand_13 0 d
  else
    f_M_failedCommand_13 1 d
def f_M_ofBrief_14  (x1 : Int32) (x2 : Int32) (v1 : Int32) (d : Dt) : Option (Int32 × Dt) :=
  ob2 (f_M_fails v1 d) fun r1 d2 =>
  if r1 = 0 then
    ob1 (f_M_placeOf x1 d2) fun r3 =>
    ob1 (f_M_brief r3 x2 d2) fun r4 =>
    some (r4, d2)
  else
    some (0, d2)
def f_M_ofBrief  (x1 : Int32) (x2 : Int32) (d : Dt) : Option (Int32 × Dt) :=
  ob1 (f_M_placeOf x1 d) fun r5 =>
  if 0 ≤ r5 then
    f_M_ofBrief_14 x1 x2 0 d
  else
    f_M_ofBrief_14 x1 x2 1 d
def f_M_fee  (x1 : Int32) (d : Dt) : Option (Int32 × Dt) :=
  ob2 (f_M_ofBrief x1 3 d) fun r1 d2 =>
  some (r1, d2)
def f_M_feed_15  (x1 : Int32) (v1 : Int32) (d : Dt) : Option (Int32 × Dt) :=
  ob2 (f_M_fails v1 d) fun r1 d2 =>
  if r1 = 0 then
    gd (inb (d2 292 9) 60) <|
    some (((wr (wr d2 297 (d2 292 9).toNatClampNeg x1) 292 9 (((wr d2 297 (d2 292 9).toNatClampNeg x1) 292 9) + 1)) 292 9), (wr (wr d2 297 (d2 292 9).toNatClampNeg x1) 292 9 (((wr d2 297 (d2 292 9).toNatClampNeg x1) 292 9) + 1)))
  else
    some (0, d2)
def f_M_feed  (x1 : Int32) (d : Dt) : Option (Int32 × Dt) :=
  if (d 292 9) = 60 then
    f_M_feed_15 x1 1 d
  else
    f_M_feed_15 x1 0 d
def st_M_feesOf_4  (x1 : Int32) (x2 : Int32) (x3 : Int32) (d : Dt) : Option ((Int32 × Int32) ⊕ Int32) :=
  if (d 293 3) ≤ x3 then
    ir (
      some x2)
  else
    ob1 (f_M_brief x3 3 d) fun r1 =>
    some (.inl ((x2 + (((x1 >>> (x3 &&& 31)) &&& 1) * r1)), (x3 + 1)))
def f_M_feesOf_4  (x1 : Int32) (x2 : Int32) (x3 : Int32) (d : Dt) : Option Int32 := iter fu (fun s => st_M_feesOf_4 x1 s.1 s.2 d) (x2, x3)
def f_M_feesOf  (x1 : Int32) (d : Dt) : Option Int32 :=
  f_M_feesOf_4 x1 0 0 d
def st_M_fewestFalse_39  (x1 : Int32) (x2 : Int32) (x3 : Int32) (x4 : Int32) (x5 : Int32) (d : Dt) : Option ((Int32 × Int32) ⊕ ((Int32 × Int32) ⊕ Int32)) :=
  if (d 293 4) ≤ x5 then
    ir (
      if x2 ≤ x4 then
        some (.inl (x2, (x3 + 1)))
      else
        some (.inl (x4, (x3 + 1))))
  else
    ob1 (f_M_isTrue x5 x3 d) fun r1 =>
    if r1 = 0 then
      some (.inl ((x4 + 1), (x5 + 1)))
    else
      some (.inl ((x4 + 0), (x5 + 1)))
def f_M_fewestFalse_39  (x1 : Int32) (x2 : Int32) (x3 : Int32) (x4 : Int32) (x5 : Int32) (d : Dt) : Option ((Int32 × Int32) ⊕ Int32) := iter fu (fun s => st_M_fewestFalse_39 x1 x2 x3 s.1 s.2 d) (x4, x5)
def st_M_fewestFalse_16  (x1 : Int32) (x2 : Int32) (x3 : Int32) (d : Dt) : Option ((Int32 × Int32) ⊕ Int32) :=
  if x1 < x3 then
    ir (
      some x2)
  else
    ob1 (f_M_isAdmitted x1 x3 d) fun r2 =>
    if r2 = 0 then
      some (.inl (x2, (x3 + 1)))
    else
      f_M_fewestFalse_39 x1 x2 x3 0 0 d
def f_M_fewestFalse_16  (x1 : Int32) (x2 : Int32) (x3 : Int32) (d : Dt) : Option Int32 := iter fu (fun s => st_M_fewestFalse_16 x1 s.1 s.2 d) (x2, x3)
def f_M_fewestFalse   (d : Dt) : Option Int32 :=
  f_M_fewestFalse_16 ((1 <<< ((d 293 0) &&& 31)) - 1) 12 0 d
def f_M_figures  (x1 : Int32) (x2 : Int32) (d : Dt) : Option (Int32 × Dt) :=
  ob2 (f_M_skips 32 d) fun r1 d2 =>
  if r1 = 0 then
    some (0, d2)
  else
    ob2 (f_M_digits x1 x2 d2) fun r3 d4 =>
    if r3 = 0 then
      some (0, d4)
    else
      some (1, d4)
def f_M_firstOf_14  (x1 : Int32) (v1 : Int32) (d : Dt) : Option (Int32 × Dt) :=
  ob2 (f_M_fails v1 d) fun r1 d2 =>
  if r1 = 0 then
    ob1 (f_M_says x1 0 d2) fun r3 =>
    some (r3, d2)
  else
    some (0, d2)
def f_M_firstOf  (x1 : Int32) (d : Dt) : Option (Int32 × Dt) :=
  ob1 (f_M_isStatement x1 d) fun r4 =>
  if r4 = 0 then
    f_M_firstOf_14 x1 1 d
  else
    f_M_firstOf_14 x1 0 d
def st_M_groupCount_9  (x1 : Int32) (x2 : Int32) (d : Dt) : Option ((Int32 × Int32) ⊕ (Int32 × Dt)) :=
  if (d 293 0) ≤ x2 then
    ir (
      some (x1, d))
  else
    ob1 (f_M_group x2 d) fun r1 =>
    if (r1 &&& ((1 <<< (x2 &&& 31)) - 1)) = 0 then
      some (.inl ((x1 + 1), (x2 + 1)))
    else
      some (.inl ((x1 + 0), (x2 + 1)))
def f_M_groupCount_9  (x1 : Int32) (x2 : Int32) (d : Dt) : Option (Int32 × Dt) := iter fu (fun s => st_M_groupCount_9  s.1 s.2 d) (x1, x2)
def f_M_groupCount   (d : Dt) : Option (Int32 × Dt) :=
  f_M_groupCount_9 0 0 (wr d 292 7 0)
def f_M_hasAdmitted_23   (v0 : Int32) (v1 : Int32) (d : Dt) : Option (Int32 × Dt) :=
  if v0 = v1 then
    some (1, d)
  else
    some (0, d)
def f_M_hasAdmitted  (x1 : Int32) (x2 : Int32) (d : Dt) : Option (Int32 × Dt) :=
  ob2 (f_M_isNone x1 d) fun r1 d2 =>
  if r1 = 0 then
    ob1 (f_M_of x1 1 d2) fun r3 =>
    if x2 = 0 then
      f_M_hasAdmitted_23 r3 2 d2
    else
      f_M_hasAdmitted_23 r3 1 d2
  else
    some (0, d2)
def st_M_hearingDay_40  (x2 : Int32) (x3 : Int32) (x4 : Int32) (d : Dt) : Option ((Int32) ⊕ (Int32 × Dt)) :=
  ob1 (f_M_hearing x3 x4 d) fun r1 =>
  if r1 = x2 then
    ir (
      some ((((d 293 1) + 1) + x4), d))
  else
    some (.inl (x4 + 1))
def f_M_hearingDay_40  (x2 : Int32) (x3 : Int32) (x4 : Int32) (d : Dt) : Option (Int32 × Dt) := iter fu (fun s => st_M_hearingDay_40 x2 x3 s d) x4
def f_M_hearingDay_29  (x2 : Int32) (x3 : Int32) (v1 : Int32) (d : Dt) : Option (Int32 × Dt) :=
  ob2 (f_M_fails v1 d) fun r2 d3 =>
  if r2 = 0 then
    f_M_hearingDay_40 x2 x3 0 d3
  else
    some (0, d3)
def f_M_hearingDay_24  (x2 : Int32) (x3 : Int32)  (d : Dt) : Option (Int32 × Dt) :=
  f_M_hearingDay_29 x2 x3 1 d
def f_M_hearingDay  (x1 : Int32) (d : Dt) : Option (Int32 × Dt) :=
  ob1 (f_M_placeOf x1 d) fun r4 =>
  ob1 (f_M_plan d) fun r5 =>
  if r4 < 0 then
    f_M_hearingDay_24 r4 r5 d
  else
    if ((r5 >>> (r4 &&& 31)) &&& 1) = 0 then
      f_M_hearingDay_24 r4 r5 d
    else
      f_M_hearingDay_29 r4 r5 0 d
def f_M_isAhead  (x1 : Int32) (x2 : Int32) (d : Dt) : Option Int32 :=
  ob1 (f_M_of x1 0 d) fun r1 =>
  ob1 (f_M_of x2 0 d) fun r2 =>
  if r1 = r2 then
    ob1 (f_M_toServe x1 d) fun r3 =>
    ob1 (f_M_toServe x2 d) fun r4 =>
    if r3 = r4 then
      if x2 ≤ x1 then
        some 0
      else
        some 1
    else
      ob1 (f_M_toServe x1 d) fun r5 =>
      ob1 (f_M_toServe x2 d) fun r6 =>
      if r5 ≤ r6 then
        some 0
      else
        some 1
  else
    ob1 (f_M_of x1 0 d) fun r7 =>
    ob1 (f_M_of x2 0 d) fun r8 =>
    if r8 ≤ r7 then
      some 0
    else
      some 1
def f_M_isConsistent   (d : Dt) : Option (Int32 × Dt) :=
  some (1, (wr d 292 7 0))
def f_M_isContradictory  (x1 : Int32) (d : Dt) : Option (Int32 × Dt) :=
  ob2 (f_M_isNone x1 d) fun r1 d2 =>
  if r1 = 0 then
    ob1 (f_M_judges x1 d2) fun r3 =>
    if r3 = 3 then
      some (1, d2)
    else
      some (0, d2)
  else
    some (0, d2)
def f_M_isInPlan_16  (x2 : Int32) (v1 : Int32) (d : Dt) : Option (Int32 × Dt) :=
  ob2 (f_M_fails v1 d) fun r1 d2 =>
  if r1 = 0 then
    ob1 (f_M_plan d2) fun r3 =>
    if ((r3 >>> (x2 &&& 31)) &&& 1) = 1 then
      some (1, d2)
    else
      some (0, d2)
  else
    some (0, d2)
def f_M_isInPlan  (x1 : Int32) (d : Dt) : Option (Int32 × Dt) :=
  ob1 (f_M_placeOf x1 d) fun r4 =>
  if 0 ≤ r4 then
    f_M_isInPlan_16 r4 0 d
  else
    f_M_isInPlan_16 r4 1 d
def f_M_isOneOf_18  (x2 : Int32) (x3 : Int32) (v1 : Int32) (v2 : Int32) (d : Dt) : Option (Int32 × Dt) :=
  gd (inb v1 155) <|
  ob2 (f_M_skips x2 (wr d 299 v1.toNatClampNeg v2)) fun r1 d2 =>
  if r1 = 0 then
    ob2 (f_M_skips x3 d2) fun r3 d4 =>
    if r3 = 0 then
      some (0, d4)
    else
      some (1, d4)
  else
    some (1, d2)
def f_M_isOneOf  (x1 : Int32) (x2 : Int32) (x3 : Int32) (d : Dt) : Option (Int32 × Dt) :=
  ob1 (f_M_here d) fun r5 =>
  if r5 = x2 then
    f_M_isOneOf_18 x2 x3 x1 1 d
  else
    f_M_isOneOf_18 x2 x3 x1 0 d
def f_M_isTogether_14  (x1 : Int32) (v1 : Int32) (d : Dt) : Option (Int32 × Dt) :=
  ob2 (f_M_fails v1 d) fun r1 d2 =>
  if r1 = 0 then
    ob1 (f_M_says x1 2 d2) fun r3 =>
    if r3 = 1 then
      some (1, d2)
    else
      some (0, d2)
  else
    some (0, d2)
def f_M_isTogether  (x1 : Int32) (d : Dt) : Option (Int32 × Dt) :=
  ob1 (f_M_isStatement x1 d) fun r4 =>
  if r4 = 0 then
    f_M_isTogether_14 x1 1 d
  else
    f_M_isTogether_14 x1 0 d
def st_M_lanternByBrightness_17  (x1 : Int32) (x2 : Int32) (x3 : Int32) (x4 : Int32) (d : Dt) : Option ((Int32 × Int32) ⊕ ((Int32) ⊕ (Int32 × Dt))) :=
  if (d 293 0) ≤ x4 then
    ir (
      if x3 = x1 then
        ir (
          some (x2, (wr d 292 7 0)))
      else
        some (.inl (x2 + 1)))
  else
    if x4 = x2 then
      some (.inl ((x3 + 0), (x4 + 1)))
    else
      ob1 (f_M_isAhead x4 x2 d) fun r1 =>
      if r1 = 0 then
        some (.inl ((x3 + 0), (x4 + 1)))
      else
        some (.inl ((x3 + 1), (x4 + 1)))
def f_M_lanternByBrightness_17  (x1 : Int32) (x2 : Int32) (x3 : Int32) (x4 : Int32) (d : Dt) : Option ((Int32) ⊕ (Int32 × Dt)) := iter fu (fun s => st_M_lanternByBrightness_17 x1 x2 s.1 s.2 d) (x3, x4)
def st_M_lanternByBrightness_2  (x1 : Int32) (x2 : Int32) (d : Dt) : Option ((Int32) ⊕ (Int32 × Dt)) :=
  if (d 293 0) ≤ x2 then
    ir (
      some (0, (wr d 292 7 1)))
  else
    f_M_lanternByBrightness_17 x1 x2 0 0 d
def f_M_lanternByBrightness_2  (x1 : Int32) (x2 : Int32) (d : Dt) : Option (Int32 × Dt) := iter fu (fun s => st_M_lanternByBrightness_2 x1 s d) x2
def f_M_lanternByBrightness  (x1 : Int32) (d : Dt) : Option (Int32 × Dt) :=
  f_M_lanternByBrightness_2 x1 0 d
def f_M_lanternCount   (d : Dt) : Option (Int32 × Dt) :=
  some (((wr d 292 7 0) 293 0), (wr d 292 7 0))
def f_M_lanternOf  (x1 : Int32) (d : Dt) : Option (Int32 × Dt) :=
  ob2 (f_M_ofBrief x1 1 d) fun r1 d2 =>
  some (r1, d2)
def f_M_lapsedCount   (d : Dt) : Option (Int32 × Dt) :=
  some (((wr d 292 7 0) 293 11), (wr d 292 7 0))
def f_M_lastDay  (x1 : Int32) (d : Dt) : Option (Int32 × Dt) :=
  ob2 (f_M_ofBrief x1 2 d) fun r1 d2 =>
  some (r1, d2)
def f_M_leastFalse   (d : Dt) : Option (Int32 × Dt) :=
  ob1 (f_M_fewestFalse (wr d 292 7 0)) fun r1 =>
  some (r1, (wr d 292 7 0))
def f_M_leastFalseBySets   (d : Dt) : Option (Int32 × Dt) :=
  ob1 (f_M_fewestFalse (wr d 292 7 0)) fun r1 =>
  some (r1, (wr d 292 7 0))
def f_M_outputChar_20  (x1 : Int32) (v1 : Int32) (d : Dt) : Option (Int32 × Dt) :=
  ob2 (f_M_fails v1 d) fun r1 d2 =>
  if r1 = 0 then
    gd (inb x1 60) <|
    gd (nar .char (d2 298 x1.toNatClampNeg)) <|
    some ((d2 298 x1.toNatClampNeg), d2)
  else
    some (32, d2)
def f_M_outputChar  (x1 : Int32) (d : Dt) : Option (Int32 × Dt) :=
  ob1 (f_M_in x1 0 ((d 292 13) - 1) d) fun r3 =>
  if r3 = 0 then
    f_M_outputChar_20 x1 1 d
  else
    f_M_outputChar_20 x1 0 d
def f_M_paidBack   (d : Dt) : Option (Int32 × Dt) :=
  some (((wr d 292 7 0) 293 5), (wr d 292 7 0))
def f_M_planFee   (d : Dt) : Option (Int32 × Dt) :=
  ob1 (f_M_plan (wr d 292 7 0)) fun r1 =>
  ob1 (f_M_feesOf r1 (wr d 292 7 0)) fun r2 =>
  some (r2, (wr d 292 7 0))
def f_M_planFeeBySets   (d : Dt) : Option (Int32 × Dt) :=
  ob1 (f_M_plan (wr d 292 7 0)) fun r1 =>
  ob1 (f_M_feesOf r1 (wr d 292 7 0)) fun r2 =>
  some (r2, (wr d 292 7 0))
def st_M_relation_51  (x1 : Int32) (x2 : Int32) (x3 : Int32) (x4 : Int32) (d : Dt) : Option ((Int32) ⊕ (Int32 × Dt)) :=
  if (1 <<< ((d 293 0) &&& 31)) ≤ x4 then
    ir (
      some (32, (wr d 292 7 2)))
  else
    if (x4 &&& (x3 ^^^ (-1))) = 0 then
      ob1 (f_M_areTrue x3 x4 d) fun r1 =>
      if r1 = 0 then
        some (.inl (x4 + 1))
      else
        ir (
          if ((x4 >>> (x1 &&& 31)) &&& 1) = ((x4 >>> (x2 &&& 31)) &&& 1) then
            some (43, d)
          else
            some (45, d))
    else
      some (.inl (x4 + 1))
def f_M_relation_51  (x1 : Int32) (x2 : Int32) (x3 : Int32) (x4 : Int32) (d : Dt) : Option (Int32 × Dt) := iter fu (fun s => st_M_relation_51 x1 x2 x3 s d) x4
def f_M_relation_22  (x1 : Int32) (x2 : Int32) (v1 : Int32) (d : Dt) : Option (Int32 × Dt) :=
  ob2 (f_M_fails v1 d) fun r2 d3 =>
  if r2 = 0 then
    ob1 (f_M_group x1 d3) fun r4 =>
    if ((r4 >>> (x2 &&& 31)) &&& 1) = 0 then
      some (63, d3)
    else
      f_M_relation_51 x1 x2 r4 0 d3
  else
    some (32, d3)
def f_M_relation_21  (x1 : Int32) (x2 : Int32)  (d : Dt) : Option (Int32 × Dt) :=
  f_M_relation_22 x1 x2 1 d
def f_M_relation  (x1 : Int32) (x2 : Int32) (d : Dt) : Option (Int32 × Dt) :=
  ob1 (f_M_isLantern x1 d) fun r5 =>
  if r5 = 0 then
    f_M_relation_21 x1 x2 d
  else
    ob1 (f_M_isLantern x2 d) fun r6 =>
    if r6 = 0 then
      f_M_relation_21 x1 x2 d
    else
      f_M_relation_22 x1 x2 0 d
def st_M_copies_295_293_3  (x1 : Int32) (x3 : Int32) (x4 : Int32) (d : Dt) : Option ((Int32 × Dt) ⊕ Dt) :=
  if 187 ≤ x4 then
    ir (
      some d)
  else
    gd (inb (x1 + x4) 187) <|
    gd (inb (x3 + x4) 187) <|
    some (.inl ((x4 + 1), (wr d 293 (x3 + x4).toNatClampNeg (d 295 (x1 + x4).toNatClampNeg))))
def f_M_copies_295_293_3  (x1 : Int32) (x3 : Int32) (x4 : Int32) (d : Dt) : Option Dt := iter fu (fun s => st_M_copies_295_293_3 x1 x3 s.1 s.2) (x4, d)
def f_M_copies_295_293  (x1 : Int32) (x3 : Int32) (d : Dt) : Option Dt :=
  f_M_copies_295_293_3 x1 x3 0 d
def f_M_restore_13   (v1 : Int32) (d : Dt) : Option (Int32 × Dt) :=
  ob2 (f_M_fails v1 d) fun r1 d2 =>
  if r1 = 0 then
    ob1 (f_M_copies_295_293 0 0 d2) fun d3 =>
    some (((wr d3 292 5 0) 293 0), (wr d3 292 5 0))
  else
    some (0, d2)
def f_M_restore   (d : Dt) : Option (Int32 × Dt) :=
  if (d 292 4) = 0 then
    f_M_restore_13 1 d
  else
    f_M_restore_13 0 d
def f_M_retract_27  (x1 : Int32) (v1 : Int32) (d : Dt) : Option (Int32 × Dt) :=
  ob2 (f_M_fails v1 d) fun r1 d2 =>
  if r1 = 0 then
    ob1 (f_M_of x1 1 d2) fun r3 =>
    ob1 (f_M_keeps d2) fun d4 =>
    ob1 (f_M_lays x1 1 0 d4) fun d5 =>
    if r3 = 1 then
      some (1, d5)
    else
      some (0, d5)
  else
    some (0, d2)
def f_M_retract  (x1 : Int32) (d : Dt) : Option (Int32 × Dt) :=
  ob1 (f_M_isLantern x1 d) fun r6 =>
  if r6 = 0 then
    f_M_retract_27 x1 1 d
  else
    ob1 (f_M_of x1 1 d) fun r7 =>
    if r7 = 0 then
      f_M_retract_27 x1 2 d
    else
      f_M_retract_27 x1 0 d
def st_M_copies_296_294_3  (x1 : Int32) (x3 : Int32) (x4 : Int32) (d : Dt) : Option ((Int32 × Dt) ⊕ Dt) :=
  if 187 ≤ x4 then
    ir (
      some d)
  else
    gd (inb (x1 + x4) 187) <|
    gd (inb (x3 + x4) 1496) <|
    some (.inl ((x4 + 1), (wr d 294 (x3 + x4).toNatClampNeg (d 296 (x1 + x4).toNatClampNeg))))
def f_M_copies_296_294_3  (x1 : Int32) (x3 : Int32) (x4 : Int32) (d : Dt) : Option Dt := iter fu (fun s => st_M_copies_296_294_3 x1 x3 s.1 s.2) (x4, d)
def f_M_copies_296_294  (x1 : Int32) (x3 : Int32) (d : Dt) : Option Dt :=
  f_M_copies_296_294_3 x1 x3 0 d
def f_M_keeps_292_296_63    (d : Dt) : Option Dt :=
  ob1 (f_M_copies_296_294 0 (187 * (d 292 5)) d) fun d1 =>
  some (wr d1 292 5 ((d1 292 5) + 1))
def st_M_keeps_292_296_24  (x2 : Int32) (d : Dt) : Option ((Int32 × Dt) ⊕ Dt) :=
  if 1309 ≤ x2 then
    ir (
      f_M_keeps_292_296_63 (wr d 292 5 ((d 292 5) - 1)))
  else
    gd (inb (x2 + 187) 1496) <|
    gd (inb x2 1496) <|
    some (.inl ((x2 + 1), (wr d 294 x2.toNatClampNeg (d 294 (x2 + 187).toNatClampNeg))))
def f_M_keeps_292_296_24  (x2 : Int32) (d : Dt) : Option Dt := iter fu (fun s => st_M_keeps_292_296_24  s.1 s.2) (x2, d)
def f_M_keeps_292_296   (d : Dt) : Option Dt :=
  if ((wr d 292 7 0) 292 6) = 0 then
    if ((wr d 292 7 0) 292 5) = 8 then
      f_M_keeps_292_296_24 0 (wr d 292 7 0)
    else
      f_M_keeps_292_296_63 (wr d 292 7 0)
  else
    some (wr d 292 7 0)
def st_M_copies_296_293_3  (x1 : Int32) (x3 : Int32) (x4 : Int32) (d : Dt) : Option ((Int32 × Dt) ⊕ Dt) :=
  if 187 ≤ x4 then
    ir (
      some d)
  else
    gd (inb (x1 + x4) 187) <|
    gd (inb (x3 + x4) 187) <|
    some (.inl ((x4 + 1), (wr d 293 (x3 + x4).toNatClampNeg (d 296 (x1 + x4).toNatClampNeg))))
def f_M_copies_296_293_3  (x1 : Int32) (x3 : Int32) (x4 : Int32) (d : Dt) : Option Dt := iter fu (fun s => st_M_copies_296_293_3 x1 x3 s.1 s.2) (x4, d)
def f_M_copies_296_293  (x1 : Int32) (x3 : Int32) (d : Dt) : Option Dt :=
  f_M_copies_296_293_3 x1 x3 0 d
def st_M_copies_293_296_3  (x1 : Int32) (x3 : Int32) (x4 : Int32) (d : Dt) : Option ((Int32 × Dt) ⊕ Dt) :=
  if 187 ≤ x4 then
    ir (
      some d)
  else
    gd (inb (x1 + x4) 187) <|
    gd (inb (x3 + x4) 187) <|
    some (.inl ((x4 + 1), (wr d 296 (x3 + x4).toNatClampNeg (d 293 (x1 + x4).toNatClampNeg))))
def f_M_copies_293_296_3  (x1 : Int32) (x3 : Int32) (x4 : Int32) (d : Dt) : Option Dt := iter fu (fun s => st_M_copies_293_296_3 x1 x3 s.1 s.2) (x4, d)
def f_M_copies_293_296  (x1 : Int32) (x3 : Int32) (d : Dt) : Option Dt :=
  f_M_copies_293_296_3 x1 x3 0 d
def st_M_copies_293_295_3  (x1 : Int32) (x3 : Int32) (x4 : Int32) (d : Dt) : Option ((Int32 × Dt) ⊕ Dt) :=
  if 187 ≤ x4 then
    ir (
      some d)
  else
    gd (inb (x1 + x4) 187) <|
    gd (inb (x3 + x4) 187) <|
    some (.inl ((x4 + 1), (wr d 295 (x3 + x4).toNatClampNeg (d 293 (x1 + x4).toNatClampNeg))))
def f_M_copies_293_295_3  (x1 : Int32) (x3 : Int32) (x4 : Int32) (d : Dt) : Option Dt := iter fu (fun s => st_M_copies_293_295_3 x1 x3 s.1 s.2) (x4, d)
def f_M_copies_293_295  (x1 : Int32) (x3 : Int32) (d : Dt) : Option Dt :=
  f_M_copies_293_295_3 x1 x3 0 d
def f_M_save   (d : Dt) : Option (Int32 × Dt) :=
  ob1 (f_M_copies_293_295 0 0 (wr (wr d 292 7 0) 292 4 1)) fun d1 =>
  some ((d1 293 0), d1)
def f_M_secondOf_14  (x1 : Int32) (v1 : Int32) (d : Dt) : Option (Int32 × Dt) :=
  ob2 (f_M_fails v1 d) fun r1 d2 =>
  if r1 = 0 then
    ob1 (f_M_says x1 1 d2) fun r3 =>
    some (r3, d2)
  else
    some (0, d2)
def f_M_secondOf  (x1 : Int32) (d : Dt) : Option (Int32 × Dt) :=
  ob1 (f_M_isStatement x1 d) fun r4 =>
  if r4 = 0 then
    f_M_secondOf_14 x1 1 d
  else
    f_M_secondOf_14 x1 0 d
def f_M_sentenceCount  (x1 : Int32) (d : Dt) : Option (Int32 × Dt) :=
  ob2 (f_M_isNone x1 d) fun r1 d2 =>
  if r1 = 0 then
    ob1 (f_M_of x1 2 d2) fun r3 =>
    some (r3, d2)
  else
    some (0, d2)
def f_M_servedDays   (d : Dt) : Option (Int32 × Dt) :=
  some (((wr d 292 7 0) 293 12), (wr d 292 7 0))
def f_M_severity  (x1 : Int32) (d : Dt) : Option (Int32 × Dt) :=
  ob2 (f_M_ofBrief x1 4 d) fun r1 d2 =>
  some (r1, d2)
def f_M_statementCount   (d : Dt) : Option (Int32 × Dt) :=
  some (((wr d 292 7 0) 293 4), (wr d 292 7 0))
def f_M_thrown   (d : Dt) : Option Int32 :=
  some (d 292 7)
def st_M_copies_294_293_3  (x1 : Int32) (x3 : Int32) (x4 : Int32) (d : Dt) : Option ((Int32 × Dt) ⊕ Dt) :=
  if 187 ≤ x4 then
    ir (
      some d)
  else
    gd (inb (x1 + x4) 1496) <|
    gd (inb (x3 + x4) 187) <|
    some (.inl ((x4 + 1), (wr d 293 (x3 + x4).toNatClampNeg (d 294 (x1 + x4).toNatClampNeg))))
def f_M_copies_294_293_3  (x1 : Int32) (x3 : Int32) (x4 : Int32) (d : Dt) : Option Dt := iter fu (fun s => st_M_copies_294_293_3 x1 x3 s.1 s.2) (x4, d)
def f_M_copies_294_293  (x1 : Int32) (x3 : Int32) (d : Dt) : Option Dt :=
  f_M_copies_294_293_3 x1 x3 0 d
def f_M_undo_13   (v1 : Int32) (d : Dt) : Option (Int32 × Dt) :=
  ob2 (f_M_fails v1 d) fun r1 d2 =>
  if r1 = 0 then
    ob1 (f_M_copies_294_293 (187 * ((wr d2 292 5 ((d2 292 5) - 1)) 292 5)) 0 (wr d2 292 5 ((d2 292 5) - 1))) fun d3 =>
    some ((d3 292 5), d3)
  else
    some (0, d2)
def f_M_undo   (d : Dt) : Option (Int32 × Dt) :=
  if (d 292 5) = 0 then
    f_M_undo_13 1 d
  else
    f_M_undo_13 0 d
def f_M_undoCount   (d : Dt) : Option (Int32 × Dt) :=
  some (((wr d 292 7 0) 292 5), (wr d 292 7 0))
def f_M_writes  (x1 : Int32) (d : Dt) : Option Dt :=
  gd (inb (d 292 13) 60) <|
  gd (nar .char ((x1.toUInt32 % 65536).toInt32)) <|
  some (wr (wr d 298 (d 292 13).toNatClampNeg ((x1.toUInt32 % 65536).toInt32)) 292 13 (((wr d 298 (d 292 13).toNatClampNeg ((x1.toUInt32 % 65536).toInt32)) 292 13) + 1))
def f_M_writesNumber_r0_14  (x1 : Int32)  (d : Dt) : Option Dt :=
  ob1 (f_M_writes (48 + (x1 - x1 / 10 * 10)) d) fun d1 =>
  some d1
def f_M_writesNumber_r0  (x1 : Int32) (d : Dt) : Option Dt :=
  if x1 ≤ 9 then
    f_M_writesNumber_r0_14 x1 d
  else
    none
def f_M_writesNumber_r1_14  (x1 : Int32)  (d : Dt) : Option Dt :=
  ob1 (f_M_writes (48 + (x1 - x1 / 10 * 10)) d) fun d1 =>
  some d1
def f_M_writesNumber_r1  (x1 : Int32) (d : Dt) : Option Dt :=
  if x1 ≤ 9 then
    f_M_writesNumber_r1_14 x1 d
  else
    ob1 (f_M_writesNumber_r0 (x1 / 10) d) fun d2 =>
    f_M_writesNumber_r1_14 x1 d2
def f_M_writesNumber_r2_14  (x1 : Int32)  (d : Dt) : Option Dt :=
  ob1 (f_M_writes (48 + (x1 - x1 / 10 * 10)) d) fun d1 =>
  some d1
def f_M_writesNumber_r2  (x1 : Int32) (d : Dt) : Option Dt :=
  if x1 ≤ 9 then
    f_M_writesNumber_r2_14 x1 d
  else
    ob1 (f_M_writesNumber_r1 (x1 / 10) d) fun d2 =>
    f_M_writesNumber_r2_14 x1 d2
def f_M_writesNumber_r3_14  (x1 : Int32)  (d : Dt) : Option Dt :=
  ob1 (f_M_writes (48 + (x1 - x1 / 10 * 10)) d) fun d1 =>
  some d1
def f_M_writesNumber_r3  (x1 : Int32) (d : Dt) : Option Dt :=
  if x1 ≤ 9 then
    f_M_writesNumber_r3_14 x1 d
  else
    ob1 (f_M_writesNumber_r2 (x1 / 10) d) fun d2 =>
    f_M_writesNumber_r3_14 x1 d2
def st_M_writeLantern_76  (x1 : Int32) (x2 : Int32) (d : Dt) : Option ((Int32 × Dt) ⊕ (Int32 × Dt)) :=
  ob1 (f_M_of x1 2 d) fun r1 =>
  if r1 ≤ x2 then
    ir (
      some ((d 292 13), d))
  else
    ob1 (f_M_writes 47 d) fun d2 =>
    ob1 (f_M_of x1 (3 + x2) d2) fun r3 =>
    ob1 (f_M_writesNumber_r3 r3 d2) fun d4 =>
    some (.inl ((x2 + 1), d4))
def f_M_writeLantern_76  (x1 : Int32) (x2 : Int32) (d : Dt) : Option (Int32 × Dt) := iter fu (fun s => st_M_writeLantern_76 x1 s.1 s.2) (x2, d)
def f_M_writeLantern_71  (x1 : Int32) (v1 : Int32) (d : Dt) : Option (Int32 × Dt) :=
  ob1 (f_M_writes v1 d) fun d5 =>
  f_M_writeLantern_76 x1 0 d5
def st_M_writeLantern_22  (x1 : Int32) (x2 : Int32) (d : Dt) : Option ((Int32 × Dt) ⊕ (Int32 × Dt)) :=
  ob1 (f_M_of x1 0 d) fun r6 =>
  if r6 ≤ x2 then
    ir (
      ob1 (f_M_of x1 1 d) fun r7 =>
      if r7 ≤ 0 then
        f_M_writeLantern_76 x1 0 d
      else
        ob1 (f_M_of x1 1 d) fun r8 =>
        if r8 = 1 then
          f_M_writeLantern_71 x1 103 d
        else
          f_M_writeLantern_71 x1 105 d)
  else
    ob1 (f_M_writes 42 d) fun d9 =>
    some (.inl ((x2 + 1), d9))
def f_M_writeLantern_22  (x1 : Int32) (x2 : Int32) (d : Dt) : Option (Int32 × Dt) := iter fu (fun s => st_M_writeLantern_22 x1 s.1 s.2) (x2, d)
def f_M_writeLantern  (x1 : Int32) (d : Dt) : Option (Int32 × Dt) :=
  ob2 (f_M_isNone x1 d) fun r10 d11 =>
  if r10 = 0 then
    ob1 (f_M_writesNumber_r3 x1 (wr d11 292 13 0)) fun d12 =>
    f_M_writeLantern_22 x1 0 d12
  else
    some (0, d11)
def f_M_writePlan_35  (x1 : Int32) (x2 : Int32)  (d : Dt) : Option ((Int32 × Dt) ⊕ (Int32 × Dt)) :=
  ob1 (f_M_hearing x1 x2 d) fun r1 =>
  ob1 (f_M_brief r1 0 d) fun r2 =>
  ob1 (f_M_writesNumber_r3 r2 d) fun d3 =>
  some (.inl ((x2 + 1), d3))
def st_M_writePlan_17  (x1 : Int32) (x2 : Int32) (d : Dt) : Option ((Int32 × Dt) ⊕ (Int32 × Dt)) :=
  ob1 (f_M_bits x1 d) fun r4 =>
  if r4 ≤ x2 then
    ir (
      some ((d 292 13), d))
  else
    if x2 ≤ 0 then
      f_M_writePlan_35 x1 x2 d
    else
      ob1 (f_M_writes 32 d) fun d5 =>
      f_M_writePlan_35 x1 x2 d5
def f_M_writePlan_17  (x1 : Int32) (x2 : Int32) (d : Dt) : Option (Int32 × Dt) := iter fu (fun s => st_M_writePlan_17 x1 s.1 s.2) (x2, d)
def f_M_writePlan   (d : Dt) : Option (Int32 × Dt) :=
  ob1 (f_M_plan (wr d 292 7 0)) fun r6 =>
  f_M_writePlan_17 r6 0 (wr (wr d 292 7 0) 292 13 0)
