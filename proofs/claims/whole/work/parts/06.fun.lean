/-! 06: the pure functions of the methods -/
def f_M_lays  (x1 : Int32) (x2 : Int32) (x3 : Int32) (d : Dt) : Option Dt :=
  gd (inb ((13 + (11 * x1)) + x2) 187) <|
  bnd (wr d 293 ((13 + (11 * x1)) + x2).toNatClampNeg x3) fun d1 =>
  some d1
def f_M_fails  (x1 : Int32) (d : Dt) : Option (Int32 × Dt) :=
  bnd (wr d 292 7 x1) fun d1 =>
  if x1 ≤ 0 then
    some (0, d1)
  else
    some (1, d1)
def st_M_copies_3  (x1 : Int32) (x3 : Int32) (x4 : Int32) (d : Dt) : Option ((Int32 × Dt) ⊕ Dt) :=
  if 187 ≤ x4 then
    ir (
      some d)
  else
    gd (inb (x1 + x4) 187) <|
    gd (inb (x3 + x4) 1496) <|
    bnd (wr d 294 (x3 + x4).toNatClampNeg (d 293 (x1 + x4).toNatClampNeg)) fun d1 =>
    some (.inl ((x4 + 1), d1))
def f_M_copies_3  (x1 : Int32) (x3 : Int32) (x4 : Int32) (d : Dt) : Option Dt := iter fu (fun s => st_M_copies_3 x1 x3 s.1 s.2) (x4, d)
def f_M_copies  (x1 : Int32) (x3 : Int32) (d : Dt) : Option Dt :=
  f_M_copies_3 x1 x3 0 d
def f_M_keeps_63    (d : Dt) : Option Dt :=
  ob1 (f_M_copies 0 (187 * (d 292 5)) d) fun d1 =>
  bnd (wr d1 292 5 ((d1 292 5) + 1)) fun d2 =>
  some d2
def st_M_keeps_24  (x2 : Int32) (d : Dt) : Option ((Int32 × Dt) ⊕ Dt) :=
  if 1309 ≤ x2 then
    ir (
      bnd (wr d 292 5 ((d 292 5) - 1)) fun d3 =>
      f_M_keeps_63 d3)
  else
    gd (inb (x2 + 187) 1496) <|
    gd (inb x2 1496) <|
    bnd (wr d 294 x2.toNatClampNeg (d 294 (x2 + 187).toNatClampNeg)) fun d4 =>
    some (.inl ((x2 + 1), d4))
def f_M_keeps_24  (x2 : Int32) (d : Dt) : Option Dt := iter fu (fun s => st_M_keeps_24  s.1 s.2) (x2, d)
def f_M_keeps   (d : Dt) : Option Dt :=
  bnd (wr d 292 7 0) fun d5 =>
  if (d5 292 6) = 0 then
    if (d5 292 5) = 8 then
      f_M_keeps_24 0 d5
    else
      f_M_keeps_63 d5
  else
    some d5
def st_M_addLantern_52  (x1 : Int32) (x2 : Int32) (d : Dt) : Option ((Int32 × Dt) ⊕ (Int32 × Dt)) :=
  if 11 ≤ x2 then
    ir (
      ob1 (f_M_lays x1 0 9 d) fun d1 =>
      some (x1, d1))
  else
    ob1 (f_M_lays x1 x2 0 d) fun d2 =>
    some (.inl ((x2 + 1), d2))
def f_M_addLantern_52  (x1 : Int32) (x2 : Int32) (d : Dt) : Option (Int32 × Dt) := iter fu (fun s => st_M_addLantern_52 x1 s.1 s.2) (x2, d)
def f_M_addLantern_17   (v1 : Int32) (d : Dt) : Option (Int32 × Dt) :=
  ob2 (f_M_fails v1 d) fun r3 d4 =>
  if r3 = 0 then
    ob1 (f_M_keeps d4) fun d5 =>
    bnd (wr d5 293 0 ((d5 293 0) + 1)) fun d6 =>
    f_M_addLantern_52 (d5 293 0) 0 d6
  else
    some (0, d4)
def f_M_addLantern   (d : Dt) : Option (Int32 × Dt) :=
  if (d 293 0) = 8 then
    f_M_addLantern_17 1 d
  else
    f_M_addLantern_17 0 d
def f_M_of  (x1 : Int32) (x2 : Int32) (d : Dt) : Option Int32 :=
  gd (inb ((13 + (11 * x1)) + x2) 187) <|
  some (d 293 ((13 + (11 * x1)) + x2).toNatClampNeg)
def f_M_in  (x0 : Int32) (x1 : Int32) (x2 : Int32) (d : Dt) : Option Int32 :=
  if x0 < x1 then
    some 0
  else
    if x2 < x0 then
      some 0
    else
      some 1
def f_M_isLantern  (x1 : Int32) (d : Dt) : Option Int32 :=
  ob1 (f_M_in x1 0 ((d 293 0) - 1) d) fun r1 =>
  gd (nar .boolean r1) <|
  some r1
def f_M_admit_38  (x1 : Int32) (x3 : Int32) (v1 : Int32) (d : Dt) : Option (Int32 × Dt) :=
  ob2 (f_M_fails v1 d) fun r1 d2 =>
  if r1 = 0 then
    ob1 (f_M_of x1 1 d2) fun r3 =>
    ob1 (f_M_keeps d2) fun d4 =>
    ob1 (f_M_lays x1 1 x3 d4) fun d5 =>
    if r3 ≤ 0 then
      some (0, d5)
    else
      some (1, d5)
  else
    some (0, d2)
def f_M_admit_9  (x1 : Int32) (v0 : Int32) (d : Dt) : Option (Int32 × Dt) :=
  ob1 (f_M_isLantern x1 d) fun r6 =>
  if r6 = 0 then
    f_M_admit_38 x1 v0 1 d
  else
    ob1 (f_M_of x1 1 d) fun r7 =>
    if r7 = v0 then
      f_M_admit_38 x1 v0 2 d
    else
      f_M_admit_38 x1 v0 0 d
def f_M_admit  (x1 : Int32) (x2 : Int32) (d : Dt) : Option (Int32 × Dt) :=
  if x2 = 0 then
    f_M_admit_9 x1 2 d
  else
    f_M_admit_9 x1 1 d
def f_M_says  (x1 : Int32) (x2 : Int32) (d : Dt) : Option Int32 :=
  gd (inb ((151 + (3 * x1)) + x2) 187) <|
  some (d 293 ((151 + (3 * x1)) + x2).toNatClampNeg)
def f_M_isTrue_45   (v0 : Int32) (v1 : Int32) (d : Dt) : Option Int32 :=
  if v0 = v1 then
    some 1
  else
    some 0
def f_M_isTrue_28  (x1 : Int32) (v0 : Int32) (d : Dt) : Option Int32 :=
  ob1 (f_M_says x1 2 d) fun r1 =>
  if r1 = 1 then
    f_M_isTrue_45 v0 1 d
  else
    f_M_isTrue_45 v0 0 d
def f_M_isTrue  (x1 : Int32) (x2 : Int32) (d : Dt) : Option Int32 :=
  ob1 (f_M_says x1 0 d) fun r2 =>
  ob1 (f_M_says x1 1 d) fun r3 =>
  if ((x2 >>> (r2 &&& 31)) &&& 1) = ((x2 >>> (r3 &&& 31)) &&& 1) then
    f_M_isTrue_28 x1 1 d
  else
    f_M_isTrue_28 x1 0 d
def st_M_areTrue_2  (x1 : Int32) (x2 : Int32) (x3 : Int32) (d : Dt) : Option ((Int32) ⊕ Int32) :=
  if (d 293 4) ≤ x3 then
    ir (
      some 1)
  else
    ob1 (f_M_says x3 0 d) fun r1 =>
    if ((x1 >>> (r1 &&& 31)) &&& 1) = 1 then
      ob1 (f_M_isTrue x3 x2 d) fun r2 =>
      if r2 = 0 then
        ir (
          some 0)
      else
        some (.inl (x3 + 1))
    else
      some (.inl (x3 + 1))
def f_M_areTrue_2  (x1 : Int32) (x2 : Int32) (x3 : Int32) (d : Dt) : Option Int32 := iter fu (fun s => st_M_areTrue_2 x1 x2 s d) x3
def f_M_areTrue  (x1 : Int32) (x2 : Int32) (d : Dt) : Option Int32 :=
  f_M_areTrue_2 x1 x2 0 d
def st_M_bits_4  (x0 : Int32) (x1 : Int32) (x2 : Int32) (d : Dt) : Option ((Int32 × Int32) ⊕ Int32) :=
  if 12 ≤ x2 then
    ir (
      some x1)
  else
    some (.inl ((x1 + ((x0 >>> (x2 &&& 31)) &&& 1)), (x2 + 1)))
def f_M_bits_4  (x0 : Int32) (x1 : Int32) (x2 : Int32) (d : Dt) : Option Int32 := iter fu (fun s => st_M_bits_4 x0 s.1 s.2 d) (x1, x2)
def f_M_bits  (x0 : Int32) (d : Dt) : Option Int32 :=
  f_M_bits_4 x0 0 0 d
def f_M_brief  (x1 : Int32) (x2 : Int32) (d : Dt) : Option Int32 :=
  gd (inb ((101 + (5 * x1)) + x2) 187) <|
  some (d 293 ((101 + (5 * x1)) + x2).toNatClampNeg)
def f_M_briefAt_22  (x1 : Int32) (v1 : Int32) (d : Dt) : Option (Int32 × Dt) :=
  ob2 (f_M_fails v1 d) fun r1 d2 =>
  if r1 = 0 then
    ob1 (f_M_brief x1 0 d2) fun r3 =>
    some (r3, d2)
  else
    some (0, d2)
def f_M_briefAt  (x1 : Int32) (d : Dt) : Option (Int32 × Dt) :=
  ob1 (f_M_in x1 0 ((d 293 3) - 1) d) fun r4 =>
  if r4 = 0 then
    f_M_briefAt_22 x1 1 d
  else
    f_M_briefAt_22 x1 0 d
def f_M_briefCount   (d : Dt) : Option (Int32 × Dt) :=
  bnd (wr d 292 7 0) fun d1 =>
  some ((d1 293 3), d1)
def f_M_isNone_14   (v1 : Int32) (d : Dt) : Option (Int32 × Dt) :=
  ob2 (f_M_fails v1 d) fun r1 d2 =>
  gd (nar .boolean r1) <|
  some (r1, d2)
def f_M_isNone  (x1 : Int32) (d : Dt) : Option (Int32 × Dt) :=
  ob1 (f_M_isLantern x1 d) fun r3 =>
  if r3 = 0 then
    f_M_isNone_14 1 d
  else
    f_M_isNone_14 0 d
def f_M_brightness  (x1 : Int32) (d : Dt) : Option (Int32 × Dt) :=
  ob2 (f_M_isNone x1 d) fun r1 d2 =>
  if r1 = 0 then
    ob1 (f_M_of x1 0 d2) fun r3 =>
    some (r3, d2)
  else
    some (0, d2)
def f_M_makeStatement_113   (v1 : Int32) (v2 : Int32) (d : Dt) : Option (Int32 × Dt) :=
  gd (inb v1 187) <|
  bnd (wr d 293 v1.toNatClampNeg v2) fun d1 =>
  bnd (wr d1 293 4 ((d1 293 4) + 1)) fun d2 =>
  some (((d2 293 4) - 1), d2)
def f_M_makeStatement_46  (x1 : Int32) (x2 : Int32) (x3 : Int32) (v1 : Int32) (d : Dt) : Option (Int32 × Dt) :=
  ob2 (f_M_fails v1 d) fun r3 d4 =>
  if r3 = 0 then
    ob1 (f_M_keeps d4) fun d5 =>
    gd (inb ((151 + (3 * (d5 293 4))) + 0) 187) <|
    bnd (wr d5 293 ((151 + (3 * (d5 293 4))) + 0).toNatClampNeg x1) fun d6 =>
    gd (inb ((151 + (3 * (d5 293 4))) + 1) 187) <|
    bnd (wr d6 293 ((151 + (3 * (d5 293 4))) + 1).toNatClampNeg x2) fun d7 =>
    if x3 = 0 then
      f_M_makeStatement_113 ((151 + (3 * (d5 293 4))) + 2) 0 d7
    else
      f_M_makeStatement_113 ((151 + (3 * (d5 293 4))) + 2) 1 d7
  else
    some (0, d4)
def f_M_makeStatement_17  (x1 : Int32) (x2 : Int32) (x3 : Int32)  (d : Dt) : Option (Int32 × Dt) :=
  f_M_makeStatement_46 x1 x2 x3 1 d
def f_M_makeStatement  (x1 : Int32) (x2 : Int32) (x3 : Int32) (d : Dt) : Option (Int32 × Dt) :=
  ob1 (f_M_isLantern x1 d) fun r8 =>
  if r8 = 0 then
    f_M_makeStatement_17 x1 x2 x3 d
  else
    ob1 (f_M_isLantern x2 d) fun r9 =>
    if r9 = 0 then
      f_M_makeStatement_17 x1 x2 x3 d
    else
      if x1 = x2 then
        f_M_makeStatement_46 x1 x2 x3 2 d
      else
        if (d 293 4) = 12 then
          f_M_makeStatement_46 x1 x2 x3 3 d
        else
          f_M_makeStatement_46 x1 x2 x3 0 d
def f_M_file_64  (x1 : Int32) (x2 : Int32) (x3 : Int32) (x4 : Int32) (v1 : Int32) (d : Dt) : Option (Int32 × Dt) :=
  ob2 (f_M_fails v1 d) fun r1 d2 =>
  if r1 = 0 then
    ob1 (f_M_keeps d2) fun d3 =>
    gd (inb ((101 + (5 * (d3 293 3))) + 0) 187) <|
    bnd (wr d3 293 ((101 + (5 * (d3 293 3))) + 0).toNatClampNeg (d3 293 2)) fun d4 =>
    gd (inb ((101 + (5 * (d3 293 3))) + 1) 187) <|
    bnd (wr d4 293 ((101 + (5 * (d3 293 3))) + 1).toNatClampNeg x1) fun d5 =>
    gd (inb ((101 + (5 * (d3 293 3))) + 2) 187) <|
    bnd (wr d5 293 ((101 + (5 * (d3 293 3))) + 2).toNatClampNeg ((d5 293 1) + x2)) fun d6 =>
    gd (inb ((101 + (5 * (d3 293 3))) + 3) 187) <|
    bnd (wr d6 293 ((101 + (5 * (d3 293 3))) + 3).toNatClampNeg x3) fun d7 =>
    gd (inb ((101 + (5 * (d3 293 3))) + 4) 187) <|
    bnd (wr d7 293 ((101 + (5 * (d3 293 3))) + 4).toNatClampNeg x4) fun d8 =>
    bnd (wr d8 293 3 ((d8 293 3) + 1)) fun d9 =>
    bnd (wr d9 293 2 ((d9 293 2) + 1)) fun d10 =>
    bnd (wr d10 293 6 ((d10 293 6) + x3)) fun d11 =>
    some (((d11 293 2) - 1), d11)
  else
    some (0, d2)
def f_M_file_44  (x1 : Int32) (x2 : Int32) (x3 : Int32) (x4 : Int32)  (d : Dt) : Option (Int32 × Dt) :=
  f_M_file_64 x1 x2 x3 x4 2 d
def f_M_file  (x1 : Int32) (x2 : Int32) (x3 : Int32) (x4 : Int32) (d : Dt) : Option (Int32 × Dt) :=
  ob1 (f_M_isLantern x1 d) fun r12 =>
  if r12 = 0 then
    f_M_file_64 x1 x2 x3 x4 1 d
  else
    ob1 (f_M_in x2 1 12 d) fun r13 =>
    if r13 = 0 then
      f_M_file_44 x1 x2 x3 x4 d
    else
      ob1 (f_M_in x3 1 50 d) fun r14 =>
      if r14 = 0 then
        f_M_file_44 x1 x2 x3 x4 d
      else
        ob1 (f_M_in x4 1 9 d) fun r15 =>
        if r15 = 0 then
          f_M_file_44 x1 x2 x3 x4 d
        else
          if (d 293 3) = 10 then
            f_M_file_64 x1 x2 x3 x4 3 d
          else
            f_M_file_64 x1 x2 x3 x4 0 d
def st_M_goes_54  (x2 : Int32) (d : Dt) : Option ((Int32 × Dt) ⊕ Dt) :=
  if 5 ≤ x2 then
    ir (
      some d)
  else
    gd (inb ((101 + (5 * (d 293 3))) + x2) 187) <|
    bnd (wr d 293 ((101 + (5 * (d 293 3))) + x2).toNatClampNeg 0) fun d1 =>
    some (.inl ((x2 + 1), d1))
def f_M_goes_54  (x2 : Int32) (d : Dt) : Option Dt := iter fu (fun s => st_M_goes_54  s.1 s.2) (x2, d)
def st_M_goes_17  (x2 : Int32) (d : Dt) : Option ((Int32 × Dt) ⊕ Dt) :=
  if (101 + (5 * (d 293 3))) ≤ x2 then
    ir (
      f_M_goes_54 0 d)
  else
    gd (inb (x2 + 5) 187) <|
    gd (inb x2 187) <|
    bnd (wr d 293 x2.toNatClampNeg (d 293 (x2 + 5).toNatClampNeg)) fun d2 =>
    some (.inl ((x2 + 1), d2))
def f_M_goes_17  (x2 : Int32) (d : Dt) : Option Dt := iter fu (fun s => st_M_goes_17  s.1 s.2) (x2, d)
def f_M_goes  (x1 : Int32) (d : Dt) : Option Dt :=
  bnd (wr d 293 3 ((d 293 3) - 1)) fun d3 =>
  f_M_goes_17 (101 + (5 * x1)) d3
def st_M_placeOf_2  (x1 : Int32) (x2 : Int32) (d : Dt) : Option ((Int32) ⊕ Int32) :=
  if (d 293 3) ≤ x2 then
    ir (
      some (-1))
  else
    ob1 (f_M_brief x2 0 d) fun r1 =>
    if r1 = x1 then
      ir (
        some x2)
    else
      some (.inl (x2 + 1))
def f_M_placeOf_2  (x1 : Int32) (x2 : Int32) (d : Dt) : Option Int32 := iter fu (fun s => st_M_placeOf_2 x1 s d) x2
def f_M_placeOf  (x1 : Int32) (d : Dt) : Option Int32 :=
  f_M_placeOf_2 x1 0 d
def f_M_withdraw_16  (x2 : Int32) (v1 : Int32) (d : Dt) : Option (Int32 × Dt) :=
  ob2 (f_M_fails v1 d) fun r1 d2 =>
  if r1 = 0 then
    ob1 (f_M_keeps d2) fun d3 =>
    ob1 (f_M_brief x2 3 d3) fun r4 =>
    bnd (wr d3 293 5 ((d3 293 5) + (r4 / 2))) fun d5 =>
    ob1 (f_M_goes x2 d5) fun d6 =>
    some ((r4 / 2), d6)
  else
    some (0, d2)
def f_M_withdraw  (x1 : Int32) (d : Dt) : Option (Int32 × Dt) :=
  ob1 (f_M_placeOf x1 d) fun r7 =>
  if 0 ≤ r7 then
    f_M_withdraw_16 r7 0 d
  else
    f_M_withdraw_16 r7 1 d
def f_M_isStatement  (x1 : Int32) (d : Dt) : Option Int32 :=
  ob1 (f_M_in x1 0 ((d 293 4) - 1) d) fun r1 =>
  gd (nar .boolean r1) <|
  some r1
def st_M_dropStatement_86  (x2 : Int32) (d : Dt) : Option ((Int32 × Dt) ⊕ (Int32 × Dt)) :=
  if 3 ≤ x2 then
    ir (
      some ((d 293 4), d))
  else
    gd (inb ((151 + (3 * (d 293 4))) + x2) 187) <|
    bnd (wr d 293 ((151 + (3 * (d 293 4))) + x2).toNatClampNeg 0) fun d1 =>
    some (.inl ((x2 + 1), d1))
def f_M_dropStatement_86  (x2 : Int32) (d : Dt) : Option (Int32 × Dt) := iter fu (fun s => st_M_dropStatement_86  s.1 s.2) (x2, d)
def st_M_dropStatement_48  (x2 : Int32) (d : Dt) : Option ((Int32 × Dt) ⊕ (Int32 × Dt)) :=
  if (151 + (3 * (d 293 4))) ≤ x2 then
    ir (
      f_M_dropStatement_86 0 d)
  else
    gd (inb (x2 + 3) 187) <|
    gd (inb x2 187) <|
    bnd (wr d 293 x2.toNatClampNeg (d 293 (x2 + 3).toNatClampNeg)) fun d2 =>
    some (.inl ((x2 + 1), d2))
def f_M_dropStatement_48  (x2 : Int32) (d : Dt) : Option (Int32 × Dt) := iter fu (fun s => st_M_dropStatement_48  s.1 s.2) (x2, d)
def f_M_dropStatement_14  (x1 : Int32) (v1 : Int32) (d : Dt) : Option (Int32 × Dt) :=
  ob2 (f_M_fails v1 d) fun r3 d4 =>
  if r3 = 0 then
    ob1 (f_M_keeps d4) fun d5 =>
    bnd (wr d5 293 4 ((d5 293 4) - 1)) fun d6 =>
    f_M_dropStatement_48 (151 + (3 * x1)) d6
  else
    some (0, d4)
def f_M_dropStatement  (x1 : Int32) (d : Dt) : Option (Int32 × Dt) :=
  ob1 (f_M_isStatement x1 d) fun r7 =>
  if r7 = 0 then
    f_M_dropStatement_14 x1 1 d
  else
    f_M_dropStatement_14 x1 0 d
def st_M_ends_11  (x1 : Int32) (x2 : Int32) (x3 : Int32) (d : Dt) : Option ((Int32 × Dt) ⊕ Dt) :=
  if x2 ≤ x3 then
    ir (
      ob1 (f_M_lays x1 (3 + x2) 0 d) fun d1 =>
      ob1 (f_M_lays x1 2 x2 d1) fun d2 =>
      some d2)
  else
    ob1 (f_M_of x1 ((3 + x3) + 1) d) fun r3 =>
    ob1 (f_M_lays x1 (3 + x3) r3 d) fun d4 =>
    some (.inl ((x3 + 1), d4))
def f_M_ends_11  (x1 : Int32) (x2 : Int32) (x3 : Int32) (d : Dt) : Option Dt := iter fu (fun s => st_M_ends_11 x1 x2 s.1 s.2) (x3, d)
def f_M_ends  (x1 : Int32) (d : Dt) : Option Dt :=
  ob1 (f_M_of x1 2 d) fun r5 =>
  f_M_ends_11 x1 (r5 - 1) 0 d
def f_M_pardon_27  (x1 : Int32) (v1 : Int32) (d : Dt) : Option (Int32 × Dt) :=
  ob2 (f_M_fails v1 d) fun r1 d2 =>
  if r1 = 0 then
    ob1 (f_M_of x1 3 d2) fun r3 =>
    ob1 (f_M_keeps d2) fun d4 =>
    ob1 (f_M_ends x1 d4) fun d5 =>
    some (r3, d5)
  else
    some (0, d2)
def f_M_pardon  (x1 : Int32) (d : Dt) : Option (Int32 × Dt) :=
  ob1 (f_M_isLantern x1 d) fun r6 =>
  if r6 = 0 then
    f_M_pardon_27 x1 1 d
  else
    ob1 (f_M_of x1 2 d) fun r7 =>
    if r7 = 0 then
      f_M_pardon_27 x1 2 d
    else
      f_M_pardon_27 x1 0 d
def f_M_serves_33   (v1 : Int32) (v2 : Int32) (v3 : Int32) (d : Dt) : Option Dt :=
  ob1 (f_M_lays v1 v2 v3 d) fun d1 =>
  some d1
def f_M_serves_51  (x1 : Int32) (v1 : Int32) (v2 : Int32) (v3 : Int32) (d : Dt) : Option Dt :=
  ob1 (f_M_lays v1 v2 v3 d) fun d2 =>
  ob1 (f_M_of x1 3 d2) fun r3 =>
  ob1 (f_M_lays x1 3 (r3 - 1) d2) fun d4 =>
  bnd (wr d4 293 12 ((d4 293 12) + 1)) fun d5 =>
  ob1 (f_M_of x1 3 d5) fun r6 =>
  if r6 = 0 then
    ob1 (f_M_ends x1 d5) fun d7 =>
    some d7
  else
    some d5
def f_M_serves  (x1 : Int32) (d : Dt) : Option Dt :=
  ob1 (f_M_of x1 0 d) fun r8 =>
  ob1 (f_M_of x1 2 d) fun r9 =>
  if r9 = 0 then
    if 9 ≤ r8 then
      f_M_serves_33 x1 0 9 d
    else
      f_M_serves_33 x1 0 (r8 + 1) d
  else
    if r8 ≤ 0 then
      f_M_serves_51 x1 x1 0 0 d
    else
      f_M_serves_51 x1 x1 0 (r8 - 1) d
def st_M_isPossible_13  (x1 : Int32) (x2 : Int32) (x3 : Int32) (x4 : Int32) (d : Dt) : Option ((Int32 × Int32) ⊕ ((Int32) ⊕ Int32)) :=
  if (d 293 3) ≤ x4 then
    ir (
      if x3 ≤ x2 then
        some (.inl (x2 + 1))
      else
        ir (
          some 0))
  else
    if ((x1 >>> (x4 &&& 31)) &&& 1) = 1 then
      ob1 (f_M_brief x4 2 d) fun r1 =>
      if ((d 293 1) + x2) < r1 then
        some (.inl ((x3 + 0), (x4 + 1)))
      else
        some (.inl ((x3 + 1), (x4 + 1)))
    else
      some (.inl ((x3 + 0), (x4 + 1)))
def f_M_isPossible_13  (x1 : Int32) (x2 : Int32) (x3 : Int32) (x4 : Int32) (d : Dt) : Option ((Int32) ⊕ Int32) := iter fu (fun s => st_M_isPossible_13 x1 x2 s.1 s.2 d) (x3, x4)
def st_M_isPossible_2  (x1 : Int32) (x2 : Int32) (d : Dt) : Option ((Int32) ⊕ Int32) :=
  if 12 < x2 then
    ir (
      some 1)
  else
    f_M_isPossible_13 x1 x2 0 0 d
def f_M_isPossible_2  (x1 : Int32) (x2 : Int32) (d : Dt) : Option Int32 := iter fu (fun s => st_M_isPossible_2 x1 s d) x2
def f_M_isPossible  (x1 : Int32) (d : Dt) : Option Int32 :=
  f_M_isPossible_2 x1 1 d
def f_M_isDearer  (x1 : Int32) (x2 : Int32) (d : Dt) : Option Int32 :=
  ob1 (f_M_brief x1 3 d) fun r1 =>
  ob1 (f_M_brief x2 3 d) fun r2 =>
  if r1 = r2 then
    ob1 (f_M_brief x1 2 d) fun r3 =>
    ob1 (f_M_brief x2 2 d) fun r4 =>
    if r3 = r4 then
      ob1 (f_M_brief x1 0 d) fun r5 =>
      ob1 (f_M_brief x2 0 d) fun r6 =>
      if r6 ≤ r5 then
        some 0
      else
        some 1
    else
      ob1 (f_M_brief x1 2 d) fun r7 =>
      ob1 (f_M_brief x2 2 d) fun r8 =>
      if r8 ≤ r7 then
        some 0
      else
        some 1
  else
    ob1 (f_M_brief x1 3 d) fun r9 =>
    ob1 (f_M_brief x2 3 d) fun r10 =>
    if r9 ≤ r10 then
      some 0
    else
      some 1
def st_M_plan_22  (x1 : Int32) (x2 : Int32) (x3 : Int32) (x4 : Int32) (x5 : Int32) (d : Dt) : Option ((Int32 × Int32) ⊕ ((Int32 × Int32 × Int32) ⊕ Int32)) :=
  if (d 293 3) ≤ x5 then
    ir (
      ob1 (f_M_isPossible (x2 ||| (1 <<< (x4 &&& 31))) d) fun r1 =>
      if r1 = 0 then
        some (.inl ((x1 ||| (1 <<< (x4 &&& 31))), x2, (x3 + 1)))
      else
        some (.inl ((x1 ||| (1 <<< (x4 &&& 31))), (x2 ||| (1 <<< (x4 &&& 31))), (x3 + 1))))
  else
    if ((x1 >>> (x5 &&& 31)) &&& 1) = 0 then
      if x4 < 0 then
        some (.inl (x5, (x5 + 1)))
      else
        ob1 (f_M_isDearer x5 x4 d) fun r2 =>
        if r2 = 0 then
          some (.inl (x4, (x5 + 1)))
        else
          some (.inl (x5, (x5 + 1)))
    else
      some (.inl (x4, (x5 + 1)))
def f_M_plan_22  (x1 : Int32) (x2 : Int32) (x3 : Int32) (x4 : Int32) (x5 : Int32) (d : Dt) : Option ((Int32 × Int32 × Int32) ⊕ Int32) := iter fu (fun s => st_M_plan_22 x1 x2 x3 s.1 s.2 d) (x4, x5)
def st_M_plan_6  (x1 : Int32) (x2 : Int32) (x3 : Int32) (d : Dt) : Option ((Int32 × Int32 × Int32) ⊕ Int32) :=
  if (d 293 3) ≤ x3 then
    ir (
      some x2)
  else
    f_M_plan_22 x1 x2 x3 (-1) 0 d
def f_M_plan_6  (x1 : Int32) (x2 : Int32) (x3 : Int32) (d : Dt) : Option Int32 := iter fu (fun s => st_M_plan_6  s.1 s.2.1 s.2.2 d) (x1, x2, x3)
def f_M_plan   (d : Dt) : Option Int32 :=
  f_M_plan_6 0 0 0 d
def st_M_hearing_29  (x1 : Int32) (x2 : Int32) (x3 : Int32) (x4 : Int32) (x5 : Int32) (d : Dt) : Option ((Int32 × Int32) ⊕ ((Int32) ⊕ Int32)) :=
  if (d 293 3) ≤ x5 then
    ir (
      if x4 = x2 then
        ir (
          some x3)
      else
        some (.inl (x3 + 1)))
  else
    if ((x1 >>> (x5 &&& 31)) &&& 1) = 1 then
      ob1 (f_M_brief x5 2 d) fun r1 =>
      ob1 (f_M_brief x3 2 d) fun r2 =>
      if r1 < r2 then
        some (.inl ((x4 + 1), (x5 + 1)))
      else
        ob1 (f_M_brief x5 2 d) fun r3 =>
        ob1 (f_M_brief x3 2 d) fun r4 =>
        if r3 = r4 then
          if x3 ≤ x5 then
            some (.inl ((x4 + 0), (x5 + 1)))
          else
            some (.inl ((x4 + 1), (x5 + 1)))
        else
          some (.inl ((x4 + 0), (x5 + 1)))
    else
      some (.inl ((x4 + 0), (x5 + 1)))
def f_M_hearing_29  (x1 : Int32) (x2 : Int32) (x3 : Int32) (x4 : Int32) (x5 : Int32) (d : Dt) : Option ((Int32) ⊕ Int32) := iter fu (fun s => st_M_hearing_29 x1 x2 x3 s.1 s.2 d) (x4, x5)
def st_M_hearing_2  (x1 : Int32) (x2 : Int32) (x3 : Int32) (d : Dt) : Option ((Int32) ⊕ Int32) :=
  if (d 293 3) ≤ x3 then
    ir (
      some (-1))
  else
    if ((x1 >>> (x3 &&& 31)) &&& 1) = 0 then
      some (.inl (x3 + 1))
    else
      f_M_hearing_29 x1 x2 x3 0 0 d
def f_M_hearing_2  (x1 : Int32) (x2 : Int32) (x3 : Int32) (d : Dt) : Option Int32 := iter fu (fun s => st_M_hearing_2 x1 x2 s d) x3
def f_M_hearing  (x1 : Int32) (x2 : Int32) (d : Dt) : Option Int32 :=
  f_M_hearing_2 x1 x2 0 d
def f_M_isAdmitted_59  (x1 : Int32) (x2 : Int32) (x3 : Int32) (v0 : Int32) (v1 : Int32) (d : Dt) : Option ((Int32) ⊕ Int32) :=
  if v0 = v1 then
    some (.inl (x3 + 1))
  else
    ir (
      some 0)
def f_M_isAdmitted_45  (x1 : Int32) (x2 : Int32) (x3 : Int32) (v0 : Int32) (d : Dt) : Option ((Int32) ⊕ Int32) :=
  if ((x2 >>> (x3 &&& 31)) &&& 1) = 1 then
    f_M_isAdmitted_59 x1 x2 x3 v0 1 d
  else
    f_M_isAdmitted_59 x1 x2 x3 v0 0 d
def st_M_isAdmitted_2  (x1 : Int32) (x2 : Int32) (x3 : Int32) (d : Dt) : Option ((Int32) ⊕ Int32) :=
  if (d 293 0) ≤ x3 then
    ir (
      some 1)
  else
    if ((x1 >>> (x3 &&& 31)) &&& 1) = 1 then
      ob1 (f_M_of x3 1 d) fun r1 =>
      if r1 ≤ 0 then
        some (.inl (x3 + 1))
      else
        ob1 (f_M_of x3 1 d) fun r2 =>
        if r2 = 1 then
          f_M_isAdmitted_45 x1 x2 x3 1 d
        else
          f_M_isAdmitted_45 x1 x2 x3 0 d
    else
      some (.inl (x3 + 1))
def f_M_isAdmitted_2  (x1 : Int32) (x2 : Int32) (x3 : Int32) (d : Dt) : Option Int32 := iter fu (fun s => st_M_isAdmitted_2 x1 x2 s d) x3
def f_M_isAdmitted  (x1 : Int32) (x2 : Int32) (d : Dt) : Option Int32 :=
  f_M_isAdmitted_2 x1 x2 0 d
def st_M_group_16  (x3 : Int32) (x2 : Int32) (x4 : Int32) (d : Dt) : Option ((Int32 × Int32) ⊕ ((Int32 × Int32) ⊕ Int32)) :=
  if (d 293 4) ≤ x4 then
    ir (
      some (.inl (x2, x3)))
  else
    ob1 (f_M_says x4 0 d) fun r1 =>
    ob1 (f_M_says x4 1 d) fun r2 =>
    if (x3 &&& ((1 <<< (r1 &&& 31)) ||| (1 <<< (r2 &&& 31)))) = 0 then
      some (.inl (x2, (x4 + 1)))
    else
      some (.inl ((x2 ||| ((1 <<< (r1 &&& 31)) ||| (1 <<< (r2 &&& 31)))), (x4 + 1)))
def f_M_group_16  (x3 : Int32) (x2 : Int32) (x4 : Int32) (d : Dt) : Option ((Int32 × Int32) ⊕ Int32) := iter fu (fun s => st_M_group_16 x3 s.1 s.2 d) (x2, x4)
def st_M_group_6  (x2 : Int32) (x3 : Int32) (d : Dt) : Option ((Int32 × Int32) ⊕ Int32) :=
  if x2 = x3 then
    ir (
      some x2)
  else
    f_M_group_16 x2 x2 0 d
def f_M_group_6  (x2 : Int32) (x3 : Int32) (d : Dt) : Option Int32 := iter fu (fun s => st_M_group_6  s.1 s.2 d) (x2, x3)
def f_M_group  (x1 : Int32) (d : Dt) : Option Int32 :=
  f_M_group_6 (1 <<< (x1 &&& 31)) 0 d
def st_M_judges_14  (x1 : Int32) (x2 : Int32) (x3 : Int32) (x4 : Int32) (x5 : Int32) (d : Dt) : Option ((Int32 × Int32 × Int32) ⊕ Int32) :=
  if (1 <<< ((d 293 0) &&& 31)) ≤ x5 then
    ir (
      if (x3 + x4) = 0 then
        some 3
      else
        if x4 = 0 then
          some 0
        else
          if x3 = 0 then
            some 1
          else
            some 2)
  else
    if (x5 &&& (x2 ^^^ (-1))) = 0 then
      ob1 (f_M_areTrue x2 x5 d) fun r1 =>
      if r1 = 0 then
        some (.inl (x3, x4, (x5 + 1)))
      else
        ob1 (f_M_isAdmitted x2 x5 d) fun r2 =>
        if r2 = 0 then
          some (.inl (x3, x4, (x5 + 1)))
        else
          if ((x5 >>> (x1 &&& 31)) &&& 1) = 1 then
            some (.inl ((x3 + 1), x4, (x5 + 1)))
          else
            some (.inl (x3, (x4 + 1), (x5 + 1)))
    else
      some (.inl (x3, x4, (x5 + 1)))
def f_M_judges_14  (x1 : Int32) (x2 : Int32) (x3 : Int32) (x4 : Int32) (x5 : Int32) (d : Dt) : Option Int32 := iter fu (fun s => st_M_judges_14 x1 x2 s.1 s.2.1 s.2.2 d) (x3, x4, x5)
def f_M_judges  (x1 : Int32) (d : Dt) : Option Int32 :=
  ob1 (f_M_group x1 d) fun r3 =>
  f_M_judges_14 x1 r3 0 0 0 d
def f_M_hears_101  (x1 : Int32)  (d : Dt) : Option Dt :=
  ob1 (f_M_goes x1 d) fun d1 =>
  some d1
def f_M_hears_79  (x1 : Int32) (x2 : Int32)  (d : Dt) : Option Dt :=
  if x2 = 3 then
    ob1 (f_M_brief x1 3 d) fun r2 =>
    bnd (wr d 293 5 ((d 293 5) + (r2 / 2))) fun d3 =>
    f_M_hears_101 x1 d3
  else
    f_M_hears_101 x1 d
def f_M_hears  (x1 : Int32) (d : Dt) : Option Dt :=
  ob1 (f_M_brief x1 1 d) fun r4 =>
  ob1 (f_M_judges r4 d) fun r5 =>
  ob1 (f_M_brief x1 1 d) fun r6 =>
  gd (inb (7 + r5) 187) <|
  gd (inb (7 + r5) 187) <|
  bnd (wr d 293 (7 + r5).toNatClampNeg ((d 293 (7 + r5).toNatClampNeg) + 1)) fun d7 =>
  if r5 = 0 then
    ob1 (f_M_of r6 2 d7) fun r8 =>
    if 8 ≤ r8 then
      f_M_hears_79 x1 r5 d7
    else
      ob1 (f_M_of r6 2 d7) fun r9 =>
      ob1 (f_M_brief x1 4 d7) fun r10 =>
      ob1 (f_M_lays r6 (3 + r9) r10 d7) fun d11 =>
      ob1 (f_M_of r6 2 d11) fun r12 =>
      ob1 (f_M_lays r6 2 (r12 + 1) d11) fun d13 =>
      f_M_hears_79 x1 r5 d13
  else
    f_M_hears_79 x1 r5 d7
def st_M_passes_99  (x1 : Int32) (x2 : Int32) (d : Dt) : Option ((Int32 × Dt) ⊕ (Int32 × Dt)) :=
  if (d 293 0) ≤ x2 then
    ir (
      if x1 < 0 then
        some (0, d)
      else
        some (1, d))
  else
    ob1 (f_M_serves x2 d) fun d1 =>
    some (.inl ((x2 + 1), d1))
def f_M_passes_99  (x1 : Int32) (x2 : Int32) (d : Dt) : Option (Int32 × Dt) := iter fu (fun s => st_M_passes_99 x1 s.1 s.2) (x2, d)
def st_M_passes_38  (x1 : Int32) (x2 : Int32) (d : Dt) : Option ((Int32 × Dt) ⊕ (Int32 × Dt)) :=
  if x2 < 0 then
    ir (
      f_M_passes_99 x1 0 d)
  else
    ob1 (f_M_brief x2 2 d) fun r2 =>
    if r2 ≤ (d 293 1) then
      ob1 (f_M_brief x2 3 d) fun r3 =>
      bnd (wr d 293 5 ((d 293 5) + r3)) fun d4 =>
      bnd (wr d4 293 11 ((d4 293 11) + 1)) fun d5 =>
      ob1 (f_M_goes x2 d5) fun d6 =>
      some (.inl ((x2 + (-1)), d6))
    else
      some (.inl ((x2 + (-1)), d))
def f_M_passes_38  (x1 : Int32) (x2 : Int32) (d : Dt) : Option (Int32 × Dt) := iter fu (fun s => st_M_passes_38 x1 s.1 s.2) (x2, d)
def f_M_passes_29  (x1 : Int32)  (d : Dt) : Option (Int32 × Dt) :=
  f_M_passes_38 x1 ((d 293 3) - 1) d
def f_M_passes   (d : Dt) : Option (Int32 × Dt) :=
  ob1 (f_M_plan d) fun r7 =>
  ob1 (f_M_hearing r7 0 d) fun r8 =>
  bnd (wr d 293 1 ((d 293 1) + 1)) fun d9 =>
  if r8 < 0 then
    f_M_passes_29 r8 d9
  else
    ob1 (f_M_hears r8 d9) fun d10 =>
    f_M_passes_29 r8 d10
def st_M_passDays_36  (x1 : Int32) (x2 : Int32) (x3 : Int32) (d : Dt) : Option ((Int32 × Int32 × Dt) ⊕ (Int32 × Dt)) :=
  if x1 ≤ x3 then
    ir (
      some (x2, d))
  else
    ob2 (f_M_passes d) fun r1 d2 =>
    some (.inl ((x2 + r1), (x3 + 1), d2))
def f_M_passDays_36  (x1 : Int32) (x2 : Int32) (x3 : Int32) (d : Dt) : Option (Int32 × Dt) := iter fu (fun s => st_M_passDays_36 x1 s.1 s.2.1 s.2.2) (x2, x3, d)
def f_M_passDays_16  (x1 : Int32) (v1 : Int32) (d : Dt) : Option (Int32 × Dt) :=
  ob2 (f_M_fails v1 d) fun r3 d4 =>
  if r3 = 0 then
    ob1 (f_M_keeps d4) fun d5 =>
    f_M_passDays_36 x1 0 0 d5
  else
    some (0, d4)
def f_M_passDays  (x1 : Int32) (d : Dt) : Option (Int32 × Dt) :=
  ob1 (f_M_in x1 1 9 d) fun r6 =>
  if r6 = 0 then
    f_M_passDays_16 x1 1 d
  else
    f_M_passDays_16 x1 0 d
def f_M_carries_122   (v1 : Int32) (v2 : Int32) (v3 : Int32) (d : Dt) : Option (Int32 × Dt) :=
  ob2 (f_M_makeStatement v1 v2 v3 d) fun r1 d2 =>
  some (r1, d2)
def f_M_carries_144   (v1 : Int32) (v2 : Int32) (d : Dt) : Option (Int32 × Dt) :=
  ob2 (f_M_admit v1 v2 d) fun r3 d4 =>
  if r3 = 0 then
    some (0, d4)
  else
    some (1, d4)
def f_M_carries  (x1 : Int32) (d : Dt) : Option (Int32 × Dt) :=
  gd (inb (x1 + 1) 155) <|
  gd (inb (x1 + 2) 155) <|
  gd (inb x1 155) <|
  if (d 299 x1.toNatClampNeg) = 0 then
    ob2 (f_M_addLantern d) fun r5 d6 =>
    some (r5, d6)
  else
  if (d 299 x1.toNatClampNeg) = 1 then
    gd (inb (x1 + 3) 155) <|
    gd (inb (x1 + 4) 155) <|
    ob2 (f_M_file (d 299 (x1 + 1).toNatClampNeg) (d 299 (x1 + 2).toNatClampNeg) (d 299 (x1 + 3).toNatClampNeg) (d 299 (x1 + 4).toNatClampNeg) d) fun r7 d8 =>
    some (r7, d8)
  else
  if (d 299 x1.toNatClampNeg) = 2 then
    ob2 (f_M_withdraw (d 299 (x1 + 1).toNatClampNeg) d) fun r9 d10 =>
    some (r9, d10)
  else
  if (d 299 x1.toNatClampNeg) = 3 then
    gd (inb (x1 + 3) 155) <|
    if (d 299 (x1 + 3).toNatClampNeg) = 1 then
      f_M_carries_122 (d 299 (x1 + 1).toNatClampNeg) (d 299 (x1 + 2).toNatClampNeg) 1 d
    else
      f_M_carries_122 (d 299 (x1 + 1).toNatClampNeg) (d 299 (x1 + 2).toNatClampNeg) 0 d
  else
  if (d 299 x1.toNatClampNeg) = 4 then
    ob2 (f_M_dropStatement (d 299 (x1 + 1).toNatClampNeg) d) fun r11 d12 =>
    some (r11, d12)
  else
  if (d 299 x1.toNatClampNeg) = 5 then
    if (d 299 (x1 + 2).toNatClampNeg) = 1 then
      f_M_carries_144 (d 299 (x1 + 1).toNatClampNeg) 1 d
    else
      f_M_carries_144 (d 299 (x1 + 1).toNatClampNeg) 0 d
  else
  if (d 299 x1.toNatClampNeg) = 6 then
    ob2 (f_M_pardon (d 299 (x1 + 1).toNatClampNeg) d) fun r13 d14 =>
    some (r13, d14)
  else
    ob2 (f_M_passDays (d 299 (x1 + 1).toNatClampNeg) d) fun r15 d16 =>
    some (r15, d16)
def f_M_here   (d : Dt) : Option Int32 :=
  if (d 292 9) ≤ (d 292 14) then
    some (-1)
  else
    gd (inb (d 292 14) 60) <|
    some (d 297 (d 292 14).toNatClampNeg)
def f_M_skips  (x1 : Int32) (d : Dt) : Option (Int32 × Dt) :=
  ob1 (f_M_here d) fun r1 =>
  if r1 = x1 then
    bnd (wr d 292 14 ((d 292 14) + 1)) fun d2 =>
    some (1, d2)
  else
    some (0, d)
def f_JS_coder (k0 : Nat)  (d : Dt) : Option Int32 :=
  some 0
def f_JS_length (k0 : Nat)  (d : Dt) : Option Int32 :=
  ob1 (f_JS_coder k0 d) fun r1 =>
  some ((Int32.ofNat (sL k0)) >>> (r1 &&& 31))
def f_JS_isLatin1 (k0 : Nat)  (d : Dt) : Option Int32 :=
  some 1
def f_JL_charAt (k0 : Nat) (x1 : Int32) (d : Dt) : Option Int32 :=
  ob1 (f_JS_checkIndex x1 (Int32.ofNat (sL k0)) d) fun _ =>
  gd (inb x1 (sL k0)) <|
  gd (nar .char ((((sB k0 x1.toNatClampNeg) &&& 255).toUInt32 % 65536).toInt32)) <|
  some ((((sB k0 x1.toNatClampNeg) &&& 255).toUInt32 % 65536).toInt32)
def f_JS_charAt (k0 : Nat) (x1 : Int32) (d : Dt) : Option Int32 :=
  ob1 (f_JS_isLatin1 k0 d) fun r1 =>
  if r1 = 0 then
    none
  else
    ob1 (f_JL_charAt k0 x1 d) fun r2 =>
    gd (nar .char r2) <|
    some r2
def st_M_isWord_14 (k2 : Nat) (x3 : Int32) (d : Dt) : Option ((Int32 × Dt) ⊕ (Int32 × Dt)) :=
  ob1 (f_JS_length k2 d) fun r1 =>
  if r1 ≤ x3 then
    ir (
      some (1, d))
  else
    ob1 (f_JS_charAt k2 x3 d) fun r2 =>
    ob2 (f_M_skips r2 d) fun r3 d4 =>
    if r3 = 0 then
      ir (
        some (0, d4))
    else
      some (.inl ((x3 + 1), d4))
def f_M_isWord_14 (k2 : Nat) (x3 : Int32) (d : Dt) : Option (Int32 × Dt) := iter fu (fun s => st_M_isWord_14 k2  s.1 s.2) (x3, d)
def f_M_isWord (k2 : Nat) (x1 : Int32) (d : Dt) : Option (Int32 × Dt) :=
  gd (inb (5 * (d 292 16)) 155) <|
  bnd (wr d 299 (5 * (d 292 16)).toNatClampNeg x1) fun d5 =>
  f_M_isWord_14 k2 0 d5
def st_M_digits_25  (x1 : Int32) (x2 : Int32) (x3 : Int32) (d : Dt) : Option ((Int32 × Dt) ⊕ (Int32 × Dt)) :=
  if x2 ≤ x3 then
    ir (
      some (1, d))
  else
    ob1 (f_M_here d) fun r1 =>
    ob1 (f_M_in r1 48 57 d) fun r2 =>
    if r2 = 0 then
      ir (
        some (1, d))
    else
      gd (inb x1 155) <|
      ob1 (f_M_here d) fun r3 =>
      gd (inb x1 155) <|
      bnd (wr d 299 x1.toNatClampNeg (((10 * (d 299 x1.toNatClampNeg)) + r3) - 48)) fun d4 =>
      bnd (wr d4 292 14 ((d4 292 14) + 1)) fun d5 =>
      some (.inl ((x3 + 1), d5))
def f_M_digits_25  (x1 : Int32) (x2 : Int32) (x3 : Int32) (d : Dt) : Option (Int32 × Dt) := iter fu (fun s => st_M_digits_25 x1 x2 s.1 s.2) (x3, d)
def f_M_digits  (x1 : Int32) (x2 : Int32) (d : Dt) : Option (Int32 × Dt) :=
  ob1 (f_M_here d) fun r6 =>
  ob1 (f_M_in r6 48 57 d) fun r7 =>
  if r7 = 0 then
    some (0, d)
  else
    gd (inb x1 155) <|
    bnd (wr d 299 x1.toNatClampNeg 0) fun d8 =>
    f_M_digits_25 x1 x2 0 d8
def f_M_figures  (x1 : Int32) (x2 : Int32) (d : Dt) : Option (Int32 × Dt) :=
  ob2 (f_M_skips 32 d) fun r1 d2 =>
  if r1 = 0 then
    some (0, d2)
  else
    ob2 (f_M_digits x1 x2 d2) fun r3 d4 =>
    if r3 = 0 then
      some (0, d4)
    else
      some (1, d4)
def f_M_isOneOf_18  (x2 : Int32) (x3 : Int32) (v1 : Int32) (v2 : Int32) (d : Dt) : Option (Int32 × Dt) :=
  gd (inb v1 155) <|
  bnd (wr d 299 v1.toNatClampNeg v2) fun d1 =>
  ob2 (f_M_skips x2 d1) fun r2 d3 =>
  if r2 = 0 then
    ob2 (f_M_skips x3 d3) fun r4 d5 =>
    if r4 = 0 then
      some (0, d5)
    else
      some (1, d5)
  else
    some (1, d3)
def f_M_isOneOf  (x1 : Int32) (x2 : Int32) (x3 : Int32) (d : Dt) : Option (Int32 × Dt) :=
  ob1 (f_M_here d) fun r6 =>
  if r6 = x2 then
    f_M_isOneOf_18 x2 x3 x1 1 d
  else
    f_M_isOneOf_18 x2 x3 x1 0 d
def f_M_commandHere   (d : Dt) : Option (Int32 × Dt) :=
  ob2 (f_M_skips 108 d) fun r1 d2 =>
  if r1 = 0 then
    ob2 (f_M_skips 99 d2) fun r3 d4 =>
    if r3 = 0 then
      ob2 (f_M_skips 115 d4) fun r5 d6 =>
      if r5 = 0 then
        ob2 (f_M_skips 100 d6) fun r7 d8 =>
        if r7 = 0 then
          ob2 (f_M_skips 97 d8) fun r9 d10 =>
          if r9 = 0 then
            ob2 (f_M_skips 119 d10) fun r11 d12 =>
            if r11 = 0 then
              ob2 (f_M_skips 102 d12) fun r13 d14 =>
              if r13 = 0 then
                some (0, d14)
              else
                ob2 (f_M_skips 114 d14) fun r15 d16 =>
                if r15 = 0 then
                  ob2 (f_M_isWord 37 1 d16) fun r17 d18 =>
                  if r17 = 0 then
                    some (0, d18)
                  else
                    ob2 (f_M_figures ((5 * (d 292 16)) + 1) 1 d18) fun r19 d20 =>
                    if r19 = 0 then
                      some (0, d20)
                    else
                      ob2 (f_M_figures (((5 * (d 292 16)) + 1) + 1) 2 d20) fun r21 d22 =>
                      if r21 = 0 then
                        some (0, d22)
                      else
                        ob2 (f_M_figures (((5 * (d 292 16)) + 1) + 2) 2 d22) fun r23 d24 =>
                        if r23 = 0 then
                          some (0, d24)
                        else
                          ob2 (f_M_figures (((5 * (d 292 16)) + 1) + 3) 1 d24) fun r25 d26 =>
                          if r25 = 0 then
                            some (0, d26)
                          else
                            some (1, d26)
                else
                  ob2 (f_M_isWord 36 6 d16) fun r27 d28 =>
                  if r27 = 0 then
                    some (0, d28)
                  else
                    ob2 (f_M_figures ((5 * (d 292 16)) + 1) 1 d28) fun r29 d30 =>
                    if r29 = 0 then
                      some (0, d30)
                    else
                      some (1, d30)
            else
              ob2 (f_M_isWord 35 7 d12) fun r31 d32 =>
              if r31 = 0 then
                some (0, d32)
              else
                gd (inb ((5 * (d 292 16)) + 1) 155) <|
                bnd (wr d32 299 ((5 * (d 292 16)) + 1).toNatClampNeg 1) fun d33 =>
                ob1 (f_M_here d33) fun r34 =>
                if r34 = 32 then
                  ob2 (f_M_figures ((5 * (d 292 16)) + 1) 1 d33) fun r35 d36 =>
                  if r35 = 0 then
                    some (0, d36)
                  else
                    some (1, d36)
                else
                  some (1, d33)
          else
            ob2 (f_M_isWord 34 5 d10) fun r37 d38 =>
            if r37 = 0 then
              some (0, d38)
            else
              ob2 (f_M_figures ((5 * (d 292 16)) + 1) 1 d38) fun r39 d40 =>
              if r39 = 0 then
                some (0, d40)
              else
                ob2 (f_M_skips 32 d40) fun r41 d42 =>
                if r41 = 0 then
                  some (0, d42)
                else
                  ob2 (f_M_isOneOf (((5 * (d 292 16)) + 1) + 1) 103 105 d42) fun r43 d44 =>
                  if r43 = 0 then
                    some (0, d44)
                  else
                    some (1, d44)
        else
          ob2 (f_M_isWord 33 4 d8) fun r45 d46 =>
          if r45 = 0 then
            some (0, d46)
          else
            ob2 (f_M_figures ((5 * (d 292 16)) + 1) 2 d46) fun r47 d48 =>
            if r47 = 0 then
              some (0, d48)
            else
              some (1, d48)
      else
        ob2 (f_M_isWord 32 3 d6) fun r49 d50 =>
        if r49 = 0 then
          some (0, d50)
        else
          ob2 (f_M_figures ((5 * (d 292 16)) + 1) 1 d50) fun r51 d52 =>
          if r51 = 0 then
            some (0, d52)
          else
            ob2 (f_M_digits (((5 * (d 292 16)) + 1) + 1) 1 d52) fun r53 d54 =>
            if r53 = 0 then
              some (0, d54)
            else
              ob2 (f_M_isOneOf (((5 * (d 292 16)) + 1) + 2) 43 45 d54) fun r55 d56 =>
              if r55 = 0 then
                some (0, d56)
              else
                some (1, d56)
    else
      ob2 (f_M_isWord 31 2 d4) fun r57 d58 =>
      if r57 = 0 then
        some (0, d58)
      else
        ob2 (f_M_figures ((5 * (d 292 16)) + 1) 3 d58) fun r59 d60 =>
        if r59 = 0 then
          some (0, d60)
        else
          some (1, d60)
  else
    ob2 (f_M_isWord 30 0 d2) fun r61 d62 =>
    gd (nar .boolean r61) <|
    some (r61, d62)
def f_M_courtCoins   (d : Dt) : Option (Int32 × Dt) :=
  bnd (wr d 292 7 0) fun d1 =>
  some (((d1 293 6) - (d1 293 5)), d1)
def f_M_day   (d : Dt) : Option (Int32 × Dt) :=
  bnd (wr d 292 7 0) fun d1 =>
  some ((d1 293 1), d1)
def f_M_daysLeft_27  (x1 : Int32) (v1 : Int32) (d : Dt) : Option (Int32 × Dt) :=
  ob2 (f_M_fails v1 d) fun r1 d2 =>
  if r1 = 0 then
    ob1 (f_M_of x1 3 d2) fun r3 =>
    some (r3, d2)
  else
    some (0, d2)
def f_M_daysLeft  (x1 : Int32) (d : Dt) : Option (Int32 × Dt) :=
  ob1 (f_M_isLantern x1 d) fun r4 =>
  if r4 = 0 then
    f_M_daysLeft_27 x1 1 d
  else
    ob1 (f_M_of x1 2 d) fun r5 =>
    if r5 = 0 then
      f_M_daysLeft_27 x1 2 d
    else
      f_M_daysLeft_27 x1 0 d
def st_M_toServe_4  (x1 : Int32) (x2 : Int32) (x3 : Int32) (d : Dt) : Option ((Int32 × Int32) ⊕ Int32) :=
  ob1 (f_M_of x1 2 d) fun r1 =>
  if r1 ≤ x3 then
    ir (
      some x2)
  else
    ob1 (f_M_of x1 (3 + x3) d) fun r2 =>
    some (.inl ((x2 + r2), (x3 + 1)))
def f_M_toServe_4  (x1 : Int32) (x2 : Int32) (x3 : Int32) (d : Dt) : Option Int32 := iter fu (fun s => st_M_toServe_4 x1 s.1 s.2 d) (x2, x3)
def f_M_toServe  (x1 : Int32) (d : Dt) : Option Int32 :=
  f_M_toServe_4 x1 0 0 d
def f_M_daysUntilFree  (x1 : Int32) (d : Dt) : Option (Int32 × Dt) :=
  ob2 (f_M_isNone x1 d) fun r1 d2 =>
  if r1 = 0 then
    ob1 (f_M_toServe x1 d2) fun r3 =>
    some (r3, d2)
  else
    some (0, d2)
def f_M_errorPosition_13   (v1 : Int32) (d : Dt) : Option (Int32 × Dt) :=
  ob2 (f_M_fails v1 d) fun r1 d2 =>
  if r1 = 0 then
    some ((d2 292 10), d2)
  else
    some (0, d2)
def f_M_errorPosition   (d : Dt) : Option (Int32 × Dt) :=
  if 0 ≤ (d 292 10) then
    f_M_errorPosition_13 0 d
  else
    f_M_errorPosition_13 1 d
def st_M_ways_15  (x1 : Int32) (x2 : Int32) (x3 : Int32) (d : Dt) : Option ((Int32 × Int32) ⊕ Int32) :=
  if x1 < x3 then
    ir (
      some x2)
  else
    ob1 (f_M_areTrue x1 x3 d) fun r1 =>
    if r1 = 0 then
      some (.inl ((x2 + 0), (x3 + 1)))
    else
      ob1 (f_M_isAdmitted x1 x3 d) fun r2 =>
      if r2 = 0 then
        some (.inl ((x2 + 0), (x3 + 1)))
      else
        some (.inl ((x2 + 1), (x3 + 1)))
def f_M_ways_15  (x1 : Int32) (x2 : Int32) (x3 : Int32) (d : Dt) : Option Int32 := iter fu (fun s => st_M_ways_15 x1 s.1 s.2 d) (x2, x3)
def f_M_ways   (d : Dt) : Option Int32 :=
  f_M_ways_15 ((1 <<< ((d 293 0) &&& 31)) - 1) 0 0 d
def f_M_explanations   (d : Dt) : Option (Int32 × Dt) :=
  bnd (wr d 292 7 0) fun d1 =>
  ob1 (f_M_ways d1) fun r2 =>
  some (r2, d1)
def f_M_explanationsByTrial   (d : Dt) : Option (Int32 × Dt) :=
  bnd (wr d 292 7 0) fun d1 =>
  ob1 (f_M_ways d1) fun r2 =>
  some (r2, d1)
def f_M_failedCommand_13   (v1 : Int32) (d : Dt) : Option (Int32 × Dt) :=
  ob2 (f_M_fails v1 d) fun r1 d2 =>
  if r1 = 0 then
    some ((d2 292 11), d2)
  else
    some (0, d2)
def f_M_failedCommand   (d : Dt) : Option (Int32 × Dt) :=
  if 0 ≤ (d 292 11) then
    f_M_failedCommand_13 0 d
  else
    f_M_failedCommand_13 1 d
def f_M_ofBrief_14  (x1 : Int32) (x2 : Int32) (v1 : Int32) (d : Dt) : Option (Int32 × Dt) :=
  ob2 (f_M_fails v1 d) fun r1 d2 =>
  if r1 = 0 then
    ob1 (f_M_placeOf x1 d2) fun r3 =>
    ob1 (f_M_brief r3 x2 d2) fun r4 =>
    some (r4, d2)
  else
    some (0, d2)
def f_M_ofBrief  (x1 : Int32) (x2 : Int32) (d : Dt) : Option (Int32 × Dt) :=
  ob1 (f_M_placeOf x1 d) fun r5 =>
  if 0 ≤ r5 then
    f_M_ofBrief_14 x1 x2 0 d
  else
    f_M_ofBrief_14 x1 x2 1 d
def f_M_fee  (x1 : Int32) (d : Dt) : Option (Int32 × Dt) :=
  ob2 (f_M_ofBrief x1 3 d) fun r1 d2 =>
  some (r1, d2)
def f_M_feed_15  (x1 : Int32) (v1 : Int32) (d : Dt) : Option (Int32 × Dt) :=
  ob2 (f_M_fails v1 d) fun r1 d2 =>
  if r1 = 0 then
    gd (inb (d2 292 9) 60) <|
    bnd (wr d2 297 (d2 292 9).toNatClampNeg x1) fun d3 =>
    bnd (wr d3 292 9 ((d3 292 9) + 1)) fun d4 =>
    some ((d4 292 9), d4)
  else
    some (0, d2)
def f_M_feed  (x1 : Int32) (d : Dt) : Option (Int32 × Dt) :=
  if (d 292 9) = 60 then
    f_M_feed_15 x1 1 d
  else
    f_M_feed_15 x1 0 d
def st_M_feesOf_4  (x1 : Int32) (x2 : Int32) (x3 : Int32) (d : Dt) : Option ((Int32 × Int32) ⊕ Int32) :=
  if (d 293 3) ≤ x3 then
    ir (
      some x2)
  else
    ob1 (f_M_brief x3 3 d) fun r1 =>
    some (.inl ((x2 + (((x1 >>> (x3 &&& 31)) &&& 1) * r1)), (x3 + 1)))
def f_M_feesOf_4  (x1 : Int32) (x2 : Int32) (x3 : Int32) (d : Dt) : Option Int32 := iter fu (fun s => st_M_feesOf_4 x1 s.1 s.2 d) (x2, x3)
def f_M_feesOf  (x1 : Int32) (d : Dt) : Option Int32 :=
  f_M_feesOf_4 x1 0 0 d
def st_M_fewestFalse_39  (x1 : Int32) (x2 : Int32) (x3 : Int32) (x4 : Int32) (x5 : Int32) (d : Dt) : Option ((Int32 × Int32) ⊕ ((Int32 × Int32) ⊕ Int32)) :=
  if (d 293 4) ≤ x5 then
    ir (
      if x2 ≤ x4 then
        some (.inl (x2, (x3 + 1)))
      else
        some (.inl (x4, (x3 + 1))))
  else
    ob1 (f_M_isTrue x5 x3 d) fun r1 =>
    if r1 = 0 then
      some (.inl ((x4 + 1), (x5 + 1)))
    else
      some (.inl ((x4 + 0), (x5 + 1)))
def f_M_fewestFalse_39  (x1 : Int32) (x2 : Int32) (x3 : Int32) (x4 : Int32) (x5 : Int32) (d : Dt) : Option ((Int32 × Int32) ⊕ Int32) := iter fu (fun s => st_M_fewestFalse_39 x1 x2 x3 s.1 s.2 d) (x4, x5)
def st_M_fewestFalse_16  (x1 : Int32) (x2 : Int32) (x3 : Int32) (d : Dt) : Option ((Int32 × Int32) ⊕ Int32) :=
  if x1 < x3 then
    ir (
      some x2)
  else
    ob1 (f_M_isAdmitted x1 x3 d) fun r2 =>
    if r2 = 0 then
      some (.inl (x2, (x3 + 1)))
    else
      f_M_fewestFalse_39 x1 x2 x3 0 0 d
def f_M_fewestFalse_16  (x1 : Int32) (x2 : Int32) (x3 : Int32) (d : Dt) : Option Int32 := iter fu (fun s => st_M_fewestFalse_16 x1 s.1 s.2 d) (x2, x3)
def f_M_fewestFalse   (d : Dt) : Option Int32 :=
  f_M_fewestFalse_16 ((1 <<< ((d 293 0) &&& 31)) - 1) 12 0 d
def f_M_firstOf_14  (x1 : Int32) (v1 : Int32) (d : Dt) : Option (Int32 × Dt) :=
  ob2 (f_M_fails v1 d) fun r1 d2 =>
  if r1 = 0 then
    ob1 (f_M_says x1 0 d2) fun r3 =>
    some (r3, d2)
  else
    some (0, d2)
def f_M_firstOf  (x1 : Int32) (d : Dt) : Option (Int32 × Dt) :=
  ob1 (f_M_isStatement x1 d) fun r4 =>
  if r4 = 0 then
    f_M_firstOf_14 x1 1 d
  else
    f_M_firstOf_14 x1 0 d
def st_M_groupCount_9  (x1 : Int32) (x2 : Int32) (d : Dt) : Option ((Int32 × Int32) ⊕ (Int32 × Dt)) :=
  if (d 293 0) ≤ x2 then
    ir (
      some (x1, d))
  else
    ob1 (f_M_group x2 d) fun r1 =>
    if (r1 &&& ((1 <<< (x2 &&& 31)) - 1)) = 0 then
      some (.inl ((x1 + 1), (x2 + 1)))
    else
      some (.inl ((x1 + 0), (x2 + 1)))
def f_M_groupCount_9  (x1 : Int32) (x2 : Int32) (d : Dt) : Option (Int32 × Dt) := iter fu (fun s => st_M_groupCount_9  s.1 s.2 d) (x1, x2)
def f_M_groupCount   (d : Dt) : Option (Int32 × Dt) :=
  bnd (wr d 292 7 0) fun d2 =>
  f_M_groupCount_9 0 0 d2
def f_M_guiltyShare_42  (x1 : Int32) (v1 : Int32) (d : Dt) : Option (UInt32 × Dt) :=
  ob2 (f_M_fails v1 d) fun r1 d2 =>
  if r1 = 0 then
    gd (vn32 (FP.fdiv (FP.i2f (d2 293 7)) (FP.i2f x1))) <|
    some ((FP.fdiv (FP.i2f (d2 293 7)) (FP.i2f x1)), d2)
  else
    some (FP.fconst0, d2)
def f_M_guiltyShare   (d : Dt) : Option (UInt32 × Dt) :=
  if ((((d 293 7) + (d 293 8)) + (d 293 9)) + (d 293 10)) = 0 then
    f_M_guiltyShare_42 ((((d 293 7) + (d 293 8)) + (d 293 9)) + (d 293 10)) 1 d
  else
    f_M_guiltyShare_42 ((((d 293 7) + (d 293 8)) + (d 293 9)) + (d 293 10)) 0 d
def f_M_hasAdmitted_23   (v0 : Int32) (v1 : Int32) (d : Dt) : Option (Int32 × Dt) :=
  if v0 = v1 then
    some (1, d)
  else
    some (0, d)
def f_M_hasAdmitted  (x1 : Int32) (x2 : Int32) (d : Dt) : Option (Int32 × Dt) :=
  ob2 (f_M_isNone x1 d) fun r1 d2 =>
  if r1 = 0 then
    ob1 (f_M_of x1 1 d2) fun r3 =>
    if x2 = 0 then
      f_M_hasAdmitted_23 r3 2 d2
    else
      f_M_hasAdmitted_23 r3 1 d2
  else
    some (0, d2)
def f_JL_canEncode  (x0 : Int32) (d : Dt) : Option Int32 :=
  if x0 < 0 then
    some 0
  else
    if 255 < x0 then
      some 0
    else
      some 1
def st_JL_indexOfChar_7 (k0 : Nat) (x3 : Int32) (x4 : Int32) (x5 : Int32) (d : Dt) : Option ((Int32) ⊕ Int32) :=
  if x3 ≤ x5 then
    ir (
      some (-1))
  else
    gd (inb x5 (sL k0)) <|
    if (sB k0 x5.toNatClampNeg) = x4 then
      ir (
        some x5)
    else
      some (.inl (x5 + 1))
def f_JL_indexOfChar_7 (k0 : Nat) (x3 : Int32) (x4 : Int32) (x5 : Int32) (d : Dt) : Option Int32 := iter fu (fun s => st_JL_indexOfChar_7 k0 x3 x4 s d) x5
def f_JL_indexOfChar (k0 : Nat) (x1 : Int32) (x2 : Int32) (x3 : Int32) (d : Dt) : Option Int32 :=
  f_JL_indexOfChar_7 k0 x3 (x1.toInt8.toInt32) x2 d
def f_JL_indexOf (k0 : Nat) (x1 : Int32) (x2 : Int32) (x3 : Int32) (d : Dt) : Option Int32 :=
  ob1 (f_JL_canEncode x1 d) fun r1 =>
  if r1 = 0 then
    some (-1)
  else
    if (mxI x2 0) < (mnI x3 (Int32.ofNat (sL k0))) then
      ob1 (f_JL_indexOfChar k0 x1 (mxI x2 0) (mnI x3 (Int32.ofNat (sL k0))) d) fun r2 =>
      some r2
    else
      some (-1)
def f_JS_indexOf2 (k0 : Nat) (x1 : Int32) (x2 : Int32) (d : Dt) : Option Int32 :=
  ob1 (f_JS_isLatin1 k0 d) fun r1 =>
  if r1 = 0 then
    ob1 (f_JS_length k0 d) fun r2 =>
    none
  else
    ob1 (f_JS_length k0 d) fun r3 =>
    ob1 (f_JL_indexOf k0 x1 x2 r3 d) fun r4 =>
    some r4
def f_JS_indexOf1 (k0 : Nat) (x1 : Int32) (d : Dt) : Option Int32 :=
  ob1 (f_JS_indexOf2 k0 x1 0 d) fun r1 =>
  some r1
def f_M_hearingCount_17  (x2 : Int32) (v1 : Int32) (d : Dt) : Option (Int32 × Dt) :=
  ob2 (f_M_fails v1 d) fun r1 d2 =>
  if r1 = 0 then
    gd (inb (7 + x2) 187) <|
    some ((d2 293 (7 + x2).toNatClampNeg), d2)
  else
    some (0, d2)
def f_M_hearingCount  (x1 : Int32) (d : Dt) : Option (Int32 × Dt) :=
  ob1 (f_JS_indexOf1 29 x1 d) fun r3 =>
  if 0 ≤ r3 then
    f_M_hearingCount_17 r3 0 d
  else
    f_M_hearingCount_17 r3 1 d
def st_M_hearingDay_40  (x2 : Int32) (x3 : Int32) (x4 : Int32) (d : Dt) : Option ((Int32) ⊕ (Int32 × Dt)) :=
  ob1 (f_M_hearing x3 x4 d) fun r1 =>
  if r1 = x2 then
    ir (
      some ((((d 293 1) + 1) + x4), d))
  else
    some (.inl (x4 + 1))
def f_M_hearingDay_40  (x2 : Int32) (x3 : Int32) (x4 : Int32) (d : Dt) : Option (Int32 × Dt) := iter fu (fun s => st_M_hearingDay_40 x2 x3 s d) x4
def f_M_hearingDay_29  (x2 : Int32) (x3 : Int32) (v1 : Int32) (d : Dt) : Option (Int32 × Dt) :=
  ob2 (f_M_fails v1 d) fun r2 d3 =>
  if r2 = 0 then
    f_M_hearingDay_40 x2 x3 0 d3
  else
    some (0, d3)
def f_M_hearingDay_24  (x2 : Int32) (x3 : Int32)  (d : Dt) : Option (Int32 × Dt) :=
  f_M_hearingDay_29 x2 x3 1 d
def f_M_hearingDay  (x1 : Int32) (d : Dt) : Option (Int32 × Dt) :=
  ob1 (f_M_placeOf x1 d) fun r4 =>
  ob1 (f_M_plan d) fun r5 =>
  if r4 < 0 then
    f_M_hearingDay_24 r4 r5 d
  else
    if ((r5 >>> (r4 &&& 31)) &&& 1) = 0 then
      f_M_hearingDay_24 r4 r5 d
    else
      f_M_hearingDay_29 r4 r5 0 d
def f_M_isAhead  (x1 : Int32) (x2 : Int32) (d : Dt) : Option Int32 :=
  ob1 (f_M_of x1 0 d) fun r1 =>
  ob1 (f_M_of x2 0 d) fun r2 =>
  if r1 = r2 then
    ob1 (f_M_toServe x1 d) fun r3 =>
    ob1 (f_M_toServe x2 d) fun r4 =>
    if r3 = r4 then
      if x2 ≤ x1 then
        some 0
      else
        some 1
    else
      ob1 (f_M_toServe x1 d) fun r5 =>
      ob1 (f_M_toServe x2 d) fun r6 =>
      if r5 ≤ r6 then
        some 0
      else
        some 1
  else
    ob1 (f_M_of x1 0 d) fun r7 =>
    ob1 (f_M_of x2 0 d) fun r8 =>
    if r8 ≤ r7 then
      some 0
    else
      some 1
def f_M_isConsistent   (d : Dt) : Option (Int32 × Dt) :=
  bnd (wr d 292 7 0) fun d1 =>
  some (1, d1)
def f_M_isContradictory  (x1 : Int32) (d : Dt) : Option (Int32 × Dt) :=
  ob2 (f_M_isNone x1 d) fun r1 d2 =>
  if r1 = 0 then
    ob1 (f_M_judges x1 d2) fun r3 =>
    if r3 = 3 then
      some (1, d2)
    else
      some (0, d2)
  else
    some (0, d2)
def f_M_isInPlan_16  (x2 : Int32) (v1 : Int32) (d : Dt) : Option (Int32 × Dt) :=
  ob2 (f_M_fails v1 d) fun r1 d2 =>
  if r1 = 0 then
    ob1 (f_M_plan d2) fun r3 =>
    if ((r3 >>> (x2 &&& 31)) &&& 1) = 1 then
      some (1, d2)
    else
      some (0, d2)
  else
    some (0, d2)
def f_M_isInPlan  (x1 : Int32) (d : Dt) : Option (Int32 × Dt) :=
  ob1 (f_M_placeOf x1 d) fun r4 =>
  if 0 ≤ r4 then
    f_M_isInPlan_16 r4 0 d
  else
    f_M_isInPlan_16 r4 1 d
def st_M_isText_10   (d : Dt) : Option ((Dt) ⊕ (Int32 × Dt)) :=
  ob2 (f_M_commandHere d) fun r1 d2 =>
  if r1 = 0 then
    ir (
      some (0, d2))
  else
    bnd (wr d2 292 16 ((d2 292 16) + 1)) fun d3 =>
    ob2 (f_M_skips 59 d3) fun r4 d5 =>
    if r4 = 0 then
      ir (
        if (d5 292 14) = (d5 292 9) then
          some (1, d5)
        else
          some (0, d5))
    else
      some (.inl d5)
def f_M_isText_10   (d : Dt) : Option (Int32 × Dt) := iter fu (fun s => st_M_isText_10   s) d
def f_M_isText   (d : Dt) : Option (Int32 × Dt) :=
  bnd (wr d 292 14 0) fun d6 =>
  bnd (wr d6 292 16 0) fun d7 =>
  f_M_isText_10 d7
def f_M_isTogether_14  (x1 : Int32) (v1 : Int32) (d : Dt) : Option (Int32 × Dt) :=
  ob2 (f_M_fails v1 d) fun r1 d2 =>
  if r1 = 0 then
    ob1 (f_M_says x1 2 d2) fun r3 =>
    if r3 = 1 then
      some (1, d2)
    else
      some (0, d2)
  else
    some (0, d2)
def f_M_isTogether  (x1 : Int32) (d : Dt) : Option (Int32 × Dt) :=
  ob1 (f_M_isStatement x1 d) fun r4 =>
  if r4 = 0 then
    f_M_isTogether_14 x1 1 d
  else
    f_M_isTogether_14 x1 0 d
def st_M_lanternByBrightness_17  (x1 : Int32) (x2 : Int32) (x3 : Int32) (x4 : Int32) (d : Dt) : Option ((Int32 × Int32) ⊕ ((Int32) ⊕ (Int32 × Dt))) :=
  if (d 293 0) ≤ x4 then
    ir (
      if x3 = x1 then
        ir (
          bnd (wr d 292 7 0) fun d1 =>
          some (x2, d1))
      else
        some (.inl (x2 + 1)))
  else
    if x4 = x2 then
      some (.inl ((x3 + 0), (x4 + 1)))
    else
      ob1 (f_M_isAhead x4 x2 d) fun r2 =>
      if r2 = 0 then
        some (.inl ((x3 + 0), (x4 + 1)))
      else
        some (.inl ((x3 + 1), (x4 + 1)))
def f_M_lanternByBrightness_17  (x1 : Int32) (x2 : Int32) (x3 : Int32) (x4 : Int32) (d : Dt) : Option ((Int32) ⊕ (Int32 × Dt)) := iter fu (fun s => st_M_lanternByBrightness_17 x1 x2 s.1 s.2 d) (x3, x4)
def st_M_lanternByBrightness_2  (x1 : Int32) (x2 : Int32) (d : Dt) : Option ((Int32) ⊕ (Int32 × Dt)) :=
  if (d 293 0) ≤ x2 then
    ir (
      bnd (wr d 292 7 1) fun d3 =>
      some (0, d3))
  else
    f_M_lanternByBrightness_17 x1 x2 0 0 d
def f_M_lanternByBrightness_2  (x1 : Int32) (x2 : Int32) (d : Dt) : Option (Int32 × Dt) := iter fu (fun s => st_M_lanternByBrightness_2 x1 s d) x2
def f_M_lanternByBrightness  (x1 : Int32) (d : Dt) : Option (Int32 × Dt) :=
  f_M_lanternByBrightness_2 x1 0 d
def f_M_lanternCount   (d : Dt) : Option (Int32 × Dt) :=
  bnd (wr d 292 7 0) fun d1 =>
  some ((d1 293 0), d1)
def f_M_lanternOf  (x1 : Int32) (d : Dt) : Option (Int32 × Dt) :=
  ob2 (f_M_ofBrief x1 1 d) fun r1 d2 =>
  some (r1, d2)
def f_M_lapsedCount   (d : Dt) : Option (Int32 × Dt) :=
  bnd (wr d 292 7 0) fun d1 =>
  some ((d1 293 11), d1)
def f_M_lastDay  (x1 : Int32) (d : Dt) : Option (Int32 × Dt) :=
  ob2 (f_M_ofBrief x1 2 d) fun r1 d2 =>
  some (r1, d2)
def f_M_leastFalse   (d : Dt) : Option (Int32 × Dt) :=
  bnd (wr d 292 7 0) fun d1 =>
  ob1 (f_M_fewestFalse d1) fun r2 =>
  some (r2, d1)
def f_M_leastFalseBySets   (d : Dt) : Option (Int32 × Dt) :=
  bnd (wr d 292 7 0) fun d1 =>
  ob1 (f_M_fewestFalse d1) fun r2 =>
  some (r2, d1)
def st_M_meanBrightness_27  (x1 : Int32) (x2 : Int32) (d : Dt) : Option ((Int32 × Int32) ⊕ (UInt64 × Dt)) :=
  if (d 293 0) ≤ x2 then
    ir (
      gd (vn64 (FP.ddiv (FP.i2d x1) (FP.i2d (d 293 0)))) <|
      some ((FP.ddiv (FP.i2d x1) (FP.i2d (d 293 0))), d))
  else
    ob1 (f_M_of x2 0 d) fun r1 =>
    some (.inl ((x1 + r1), (x2 + 1)))
def f_M_meanBrightness_27  (x1 : Int32) (x2 : Int32) (d : Dt) : Option (UInt64 × Dt) := iter fu (fun s => st_M_meanBrightness_27  s.1 s.2 d) (x1, x2)
def f_M_meanBrightness_15   (v1 : Int32) (d : Dt) : Option (UInt64 × Dt) :=
  ob2 (f_M_fails v1 d) fun r2 d3 =>
  if r2 = 0 then
    f_M_meanBrightness_27 0 0 d3
  else
    some (FP.dconst0, d3)
def f_M_meanBrightness   (d : Dt) : Option (UInt64 × Dt) :=
  if (d 293 0) = 0 then
    f_M_meanBrightness_15 1 d
  else
    f_M_meanBrightness_15 0 d
def f_M_outputChar_20  (x1 : Int32) (v1 : Int32) (d : Dt) : Option (Int32 × Dt) :=
  ob2 (f_M_fails v1 d) fun r1 d2 =>
  if r1 = 0 then
    gd (inb x1 60) <|
    gd (nar .char (d2 298 x1.toNatClampNeg)) <|
    some ((d2 298 x1.toNatClampNeg), d2)
  else
    some (32, d2)
def f_M_outputChar  (x1 : Int32) (d : Dt) : Option (Int32 × Dt) :=
  ob1 (f_M_in x1 0 ((d 292 13) - 1) d) fun r3 =>
  if r3 = 0 then
    f_M_outputChar_20 x1 1 d
  else
    f_M_outputChar_20 x1 0 d
def f_M_paidBack   (d : Dt) : Option (Int32 × Dt) :=
  bnd (wr d 292 7 0) fun d1 =>
  some ((d1 293 5), d1)
def f_M_planFee   (d : Dt) : Option (Int32 × Dt) :=
  bnd (wr d 292 7 0) fun d1 =>
  ob1 (f_M_plan d1) fun r2 =>
  ob1 (f_M_feesOf r2 d1) fun r3 =>
  some (r3, d1)
def f_M_planFeeBySets   (d : Dt) : Option (Int32 × Dt) :=
  bnd (wr d 292 7 0) fun d1 =>
  ob1 (f_M_plan d1) fun r2 =>
  ob1 (f_M_feesOf r2 d1) fun r3 =>
  some (r3, d1)
def st_M_relation_51  (x1 : Int32) (x2 : Int32) (x3 : Int32) (x4 : Int32) (d : Dt) : Option ((Int32) ⊕ (Int32 × Dt)) :=
  if (1 <<< ((d 293 0) &&& 31)) ≤ x4 then
    ir (
      bnd (wr d 292 7 2) fun d1 =>
      some (32, d1))
  else
    if (x4 &&& (x3 ^^^ (-1))) = 0 then
      ob1 (f_M_areTrue x3 x4 d) fun r2 =>
      if r2 = 0 then
        some (.inl (x4 + 1))
      else
        ir (
          if ((x4 >>> (x1 &&& 31)) &&& 1) = ((x4 >>> (x2 &&& 31)) &&& 1) then
            some (43, d)
          else
            some (45, d))
    else
      some (.inl (x4 + 1))
def f_M_relation_51  (x1 : Int32) (x2 : Int32) (x3 : Int32) (x4 : Int32) (d : Dt) : Option (Int32 × Dt) := iter fu (fun s => st_M_relation_51 x1 x2 x3 s d) x4
def f_M_relation_22  (x1 : Int32) (x2 : Int32) (v1 : Int32) (d : Dt) : Option (Int32 × Dt) :=
  ob2 (f_M_fails v1 d) fun r3 d4 =>
  if r3 = 0 then
    ob1 (f_M_group x1 d4) fun r5 =>
    if ((r5 >>> (x2 &&& 31)) &&& 1) = 0 then
      some (63, d4)
    else
      f_M_relation_51 x1 x2 r5 0 d4
  else
    some (32, d4)
def f_M_relation_21  (x1 : Int32) (x2 : Int32)  (d : Dt) : Option (Int32 × Dt) :=
  f_M_relation_22 x1 x2 1 d
def f_M_relation  (x1 : Int32) (x2 : Int32) (d : Dt) : Option (Int32 × Dt) :=
  ob1 (f_M_isLantern x1 d) fun r6 =>
  if r6 = 0 then
    f_M_relation_21 x1 x2 d
  else
    ob1 (f_M_isLantern x2 d) fun r7 =>
    if r7 = 0 then
      f_M_relation_21 x1 x2 d
    else
      f_M_relation_22 x1 x2 0 d
def st_M_copies_295_293_3  (x1 : Int32) (x3 : Int32) (x4 : Int32) (d : Dt) : Option ((Int32 × Dt) ⊕ Dt) :=
  if 187 ≤ x4 then
    ir (
      some d)
  else
    gd (inb (x1 + x4) 187) <|
    gd (inb (x3 + x4) 187) <|
    bnd (wr d 293 (x3 + x4).toNatClampNeg (d 295 (x1 + x4).toNatClampNeg)) fun d1 =>
    some (.inl ((x4 + 1), d1))
def f_M_copies_295_293_3  (x1 : Int32) (x3 : Int32) (x4 : Int32) (d : Dt) : Option Dt := iter fu (fun s => st_M_copies_295_293_3 x1 x3 s.1 s.2) (x4, d)
def f_M_copies_295_293  (x1 : Int32) (x3 : Int32) (d : Dt) : Option Dt :=
  f_M_copies_295_293_3 x1 x3 0 d
def f_M_restore_13   (v1 : Int32) (d : Dt) : Option (Int32 × Dt) :=
  ob2 (f_M_fails v1 d) fun r1 d2 =>
  if r1 = 0 then
    ob1 (f_M_copies_295_293 0 0 d2) fun d3 =>
    bnd (wr d3 292 5 0) fun d4 =>
    some ((d4 293 0), d4)
  else
    some (0, d2)
def f_M_restore   (d : Dt) : Option (Int32 × Dt) :=
  if (d 292 4) = 0 then
    f_M_restore_13 1 d
  else
    f_M_restore_13 0 d
def f_M_retract_27  (x1 : Int32) (v1 : Int32) (d : Dt) : Option (Int32 × Dt) :=
  ob2 (f_M_fails v1 d) fun r1 d2 =>
  if r1 = 0 then
    ob1 (f_M_of x1 1 d2) fun r3 =>
    ob1 (f_M_keeps d2) fun d4 =>
    ob1 (f_M_lays x1 1 0 d4) fun d5 =>
    if r3 = 1 then
      some (1, d5)
    else
      some (0, d5)
  else
    some (0, d2)
def f_M_retract  (x1 : Int32) (d : Dt) : Option (Int32 × Dt) :=
  ob1 (f_M_isLantern x1 d) fun r6 =>
  if r6 = 0 then
    f_M_retract_27 x1 1 d
  else
    ob1 (f_M_of x1 1 d) fun r7 =>
    if r7 = 0 then
      f_M_retract_27 x1 2 d
    else
      f_M_retract_27 x1 0 d
def st_M_copies_296_294_3  (x1 : Int32) (x3 : Int32) (x4 : Int32) (d : Dt) : Option ((Int32 × Dt) ⊕ Dt) :=
  if 187 ≤ x4 then
    ir (
      some d)
  else
    gd (inb (x1 + x4) 187) <|
    gd (inb (x3 + x4) 1496) <|
    bnd (wr d 294 (x3 + x4).toNatClampNeg (d 296 (x1 + x4).toNatClampNeg)) fun d1 =>
    some (.inl ((x4 + 1), d1))
def f_M_copies_296_294_3  (x1 : Int32) (x3 : Int32) (x4 : Int32) (d : Dt) : Option Dt := iter fu (fun s => st_M_copies_296_294_3 x1 x3 s.1 s.2) (x4, d)
def f_M_copies_296_294  (x1 : Int32) (x3 : Int32) (d : Dt) : Option Dt :=
  f_M_copies_296_294_3 x1 x3 0 d
def f_M_keeps_292_296_63    (d : Dt) : Option Dt :=
  ob1 (f_M_copies_296_294 0 (187 * (d 292 5)) d) fun d1 =>
  bnd (wr d1 292 5 ((d1 292 5) + 1)) fun d2 =>
  some d2
def st_M_keeps_292_296_24  (x2 : Int32) (d : Dt) : Option ((Int32 × Dt) ⊕ Dt) :=
  if 1309 ≤ x2 then
    ir (
      bnd (wr d 292 5 ((d 292 5) - 1)) fun d3 =>
      f_M_keeps_292_296_63 d3)
  else
    gd (inb (x2 + 187) 1496) <|
    gd (inb x2 1496) <|
    bnd (wr d 294 x2.toNatClampNeg (d 294 (x2 + 187).toNatClampNeg)) fun d4 =>
    some (.inl ((x2 + 1), d4))
def f_M_keeps_292_296_24  (x2 : Int32) (d : Dt) : Option Dt := iter fu (fun s => st_M_keeps_292_296_24  s.1 s.2) (x2, d)
def f_M_keeps_292_296   (d : Dt) : Option Dt :=
  bnd (wr d 292 7 0) fun d5 =>
  if (d5 292 6) = 0 then
    if (d5 292 5) = 8 then
      f_M_keeps_292_296_24 0 d5
    else
      f_M_keeps_292_296_63 d5
  else
    some d5
def st_M_copies_296_293_3  (x1 : Int32) (x3 : Int32) (x4 : Int32) (d : Dt) : Option ((Int32 × Dt) ⊕ Dt) :=
  if 187 ≤ x4 then
    ir (
      some d)
  else
    gd (inb (x1 + x4) 187) <|
    gd (inb (x3 + x4) 187) <|
    bnd (wr d 293 (x3 + x4).toNatClampNeg (d 296 (x1 + x4).toNatClampNeg)) fun d1 =>
    some (.inl ((x4 + 1), d1))
def f_M_copies_296_293_3  (x1 : Int32) (x3 : Int32) (x4 : Int32) (d : Dt) : Option Dt := iter fu (fun s => st_M_copies_296_293_3 x1 x3 s.1 s.2) (x4, d)
def f_M_copies_296_293  (x1 : Int32) (x3 : Int32) (d : Dt) : Option Dt :=
  f_M_copies_296_293_3 x1 x3 0 d
def st_M_copies_293_296_3  (x1 : Int32) (x3 : Int32) (x4 : Int32) (d : Dt) : Option ((Int32 × Dt) ⊕ Dt) :=
  if 187 ≤ x4 then
    ir (
      some d)
  else
    gd (inb (x1 + x4) 187) <|
    gd (inb (x3 + x4) 187) <|
    bnd (wr d 296 (x3 + x4).toNatClampNeg (d 293 (x1 + x4).toNatClampNeg)) fun d1 =>
    some (.inl ((x4 + 1), d1))
def f_M_copies_293_296_3  (x1 : Int32) (x3 : Int32) (x4 : Int32) (d : Dt) : Option Dt := iter fu (fun s => st_M_copies_293_296_3 x1 x3 s.1 s.2) (x4, d)
def f_M_copies_293_296  (x1 : Int32) (x3 : Int32) (d : Dt) : Option Dt :=
  f_M_copies_293_296_3 x1 x3 0 d
def f_M_runCommands_98  (x2 : Int32) (x3 : Int32)  (d : Dt) : Option (Int32 × Dt) :=
  bnd (wr d 292 6 0) fun d1 =>
  if (d1 292 7) ≤ 0 then
    ob1 (f_M_keeps_292_296 d1) fun d2 =>
    some ((d2 292 16), d2)
  else
    ob1 (f_M_copies_296_293 0 0 d1) fun d3 =>
    bnd (wr d3 292 11 x2) fun d4 =>
    bnd (wr d4 292 7 2) fun d5 =>
    if x3 ≤ 0 then
      some (x3, d5)
    else
      some (0, d5)
def st_M_runCommands_62  (x2 : Int32) (x3 : Int32) (d : Dt) : Option ((Int32 × Int32 × Dt) ⊕ (Int32 × Dt)) :=
  if (d 292 16) ≤ x2 then
    ir (
      f_M_runCommands_98 x2 x3 d)
  else
    if (d 292 7) = 0 then
      ob2 (f_M_carries (5 * x2) d) fun r6 d7 =>
      if (d7 292 7) = 0 then
        some (.inl ((x2 + 1), r6, d7))
      else
        some (.inl (x2, r6, d7))
    else
      ir (
        f_M_runCommands_98 x2 x3 d)
def f_M_runCommands_62  (x2 : Int32) (x3 : Int32) (d : Dt) : Option (Int32 × Dt) := iter fu (fun s => st_M_runCommands_62  s.1 s.2.1 s.2.2) (x2, x3, d)
def f_M_runCommands_32   (v1 : Int32) (d : Dt) : Option (Int32 × Dt) :=
  ob2 (f_M_fails v1 d) fun r8 d9 =>
  if r8 = 0 then
    ob1 (f_M_copies_293_296 0 0 d9) fun d10 =>
    bnd (wr d10 292 6 1) fun d11 =>
    f_M_runCommands_62 0 0 d11
  else
    some (0, d9)
def f_M_runCommands_17  (x1 : Int32)  (d : Dt) : Option (Int32 × Dt) :=
  bnd (wr d 292 9 0) fun d12 =>
  if x1 = 0 then
    f_M_runCommands_32 1 d12
  else
    f_M_runCommands_32 0 d12
def f_M_runCommands   (d : Dt) : Option (Int32 × Dt) :=
  ob2 (f_M_isText d) fun r13 d14 =>
  if r13 = 0 then
    bnd (wr d14 292 10 (d14 292 14)) fun d15 =>
    f_M_runCommands_17 r13 d15
  else
    f_M_runCommands_17 r13 d14
def st_M_copies_293_295_3  (x1 : Int32) (x3 : Int32) (x4 : Int32) (d : Dt) : Option ((Int32 × Dt) ⊕ Dt) :=
  if 187 ≤ x4 then
    ir (
      some d)
  else
    gd (inb (x1 + x4) 187) <|
    gd (inb (x3 + x4) 187) <|
    bnd (wr d 295 (x3 + x4).toNatClampNeg (d 293 (x1 + x4).toNatClampNeg)) fun d1 =>
    some (.inl ((x4 + 1), d1))
def f_M_copies_293_295_3  (x1 : Int32) (x3 : Int32) (x4 : Int32) (d : Dt) : Option Dt := iter fu (fun s => st_M_copies_293_295_3 x1 x3 s.1 s.2) (x4, d)
def f_M_copies_293_295  (x1 : Int32) (x3 : Int32) (d : Dt) : Option Dt :=
  f_M_copies_293_295_3 x1 x3 0 d
def f_M_save   (d : Dt) : Option (Int32 × Dt) :=
  bnd (wr d 292 7 0) fun d1 =>
  bnd (wr d1 292 4 1) fun d2 =>
  ob1 (f_M_copies_293_295 0 0 d2) fun d3 =>
  some ((d3 293 0), d3)
def f_M_secondOf_14  (x1 : Int32) (v1 : Int32) (d : Dt) : Option (Int32 × Dt) :=
  ob2 (f_M_fails v1 d) fun r1 d2 =>
  if r1 = 0 then
    ob1 (f_M_says x1 1 d2) fun r3 =>
    some (r3, d2)
  else
    some (0, d2)
def f_M_secondOf  (x1 : Int32) (d : Dt) : Option (Int32 × Dt) :=
  ob1 (f_M_isStatement x1 d) fun r4 =>
  if r4 = 0 then
    f_M_secondOf_14 x1 1 d
  else
    f_M_secondOf_14 x1 0 d
def f_M_sentenceCount  (x1 : Int32) (d : Dt) : Option (Int32 × Dt) :=
  ob2 (f_M_isNone x1 d) fun r1 d2 =>
  if r1 = 0 then
    ob1 (f_M_of x1 2 d2) fun r3 =>
    some (r3, d2)
  else
    some (0, d2)
def f_M_servedDays   (d : Dt) : Option (Int32 × Dt) :=
  bnd (wr d 292 7 0) fun d1 =>
  some ((d1 293 12), d1)
def f_M_severity  (x1 : Int32) (d : Dt) : Option (Int32 × Dt) :=
  ob2 (f_M_ofBrief x1 4 d) fun r1 d2 =>
  some (r1, d2)
def f_M_statementCount   (d : Dt) : Option (Int32 × Dt) :=
  bnd (wr d 292 7 0) fun d1 =>
  some ((d1 293 4), d1)
def f_M_thrown   (d : Dt) : Option Int32 :=
  some (d 292 7)
def st_M_copies_294_293_3  (x1 : Int32) (x3 : Int32) (x4 : Int32) (d : Dt) : Option ((Int32 × Dt) ⊕ Dt) :=
  if 187 ≤ x4 then
    ir (
      some d)
  else
    gd (inb (x1 + x4) 1496) <|
    gd (inb (x3 + x4) 187) <|
    bnd (wr d 293 (x3 + x4).toNatClampNeg (d 294 (x1 + x4).toNatClampNeg)) fun d1 =>
    some (.inl ((x4 + 1), d1))
def f_M_copies_294_293_3  (x1 : Int32) (x3 : Int32) (x4 : Int32) (d : Dt) : Option Dt := iter fu (fun s => st_M_copies_294_293_3 x1 x3 s.1 s.2) (x4, d)
def f_M_copies_294_293  (x1 : Int32) (x3 : Int32) (d : Dt) : Option Dt :=
  f_M_copies_294_293_3 x1 x3 0 d
def f_M_undo_13   (v1 : Int32) (d : Dt) : Option (Int32 × Dt) :=
  ob2 (f_M_fails v1 d) fun r1 d2 =>
  if r1 = 0 then
    bnd (wr d2 292 5 ((d2 292 5) - 1)) fun d3 =>
    ob1 (f_M_copies_294_293 (187 * (d3 292 5)) 0 d3) fun d4 =>
    some ((d4 292 5), d4)
  else
    some (0, d2)
def f_M_undo   (d : Dt) : Option (Int32 × Dt) :=
  if (d 292 5) = 0 then
    f_M_undo_13 1 d
  else
    f_M_undo_13 0 d
def f_M_undoCount   (d : Dt) : Option (Int32 × Dt) :=
  bnd (wr d 292 7 0) fun d1 =>
  some ((d1 292 5), d1)
def f_M_verdictOf  (x1 : Int32) (d : Dt) : Option (Int32 × Dt) :=
  ob2 (f_M_isNone x1 d) fun r1 d2 =>
  if r1 = 0 then
    ob1 (f_M_judges x1 d2) fun r3 =>
    ob1 (f_JS_charAt 29 r3 d2) fun r4 =>
    gd (nar .char r4) <|
    some (r4, d2)
  else
    some (32, d2)
def f_M_verdict  (x1 : Int32) (d : Dt) : Option (Int32 × Dt) :=
  ob2 (f_M_verdictOf x1 d) fun r1 d2 =>
  gd (nar .char r1) <|
  some (r1, d2)
def f_M_verdictByExplanations  (x1 : Int32) (d : Dt) : Option (Int32 × Dt) :=
  ob2 (f_M_verdictOf x1 d) fun r1 d2 =>
  gd (nar .char r1) <|
  some (r1, d2)
def f_M_writes  (x1 : Int32) (d : Dt) : Option Dt :=
  gd (inb (d 292 13) 60) <|
  gd (nar .char ((x1.toUInt32 % 65536).toInt32)) <|
  bnd (wr d 298 (d 292 13).toNatClampNeg ((x1.toUInt32 % 65536).toInt32)) fun d1 =>
  bnd (wr d1 292 13 ((d1 292 13) + 1)) fun d2 =>
  some d2
def f_M_writesNumber_r0_14  (x1 : Int32)  (d : Dt) : Option Dt :=
  ob1 (f_M_writes (48 + (x1 - x1 / 10 * 10)) d) fun d1 =>
  some d1
def f_M_writesNumber_r0  (x1 : Int32) (d : Dt) : Option Dt :=
  if x1 ≤ 9 then
    f_M_writesNumber_r0_14 x1 d
  else
    none
def f_M_writesNumber_r1_14  (x1 : Int32)  (d : Dt) : Option Dt :=
  ob1 (f_M_writes (48 + (x1 - x1 / 10 * 10)) d) fun d1 =>
  some d1
def f_M_writesNumber_r1  (x1 : Int32) (d : Dt) : Option Dt :=
  if x1 ≤ 9 then
    f_M_writesNumber_r1_14 x1 d
  else
    ob1 (f_M_writesNumber_r0 (x1 / 10) d) fun d2 =>
    f_M_writesNumber_r1_14 x1 d2
def f_M_writesNumber_r2_14  (x1 : Int32)  (d : Dt) : Option Dt :=
  ob1 (f_M_writes (48 + (x1 - x1 / 10 * 10)) d) fun d1 =>
  some d1
def f_M_writesNumber_r2  (x1 : Int32) (d : Dt) : Option Dt :=
  if x1 ≤ 9 then
    f_M_writesNumber_r2_14 x1 d
  else
    ob1 (f_M_writesNumber_r1 (x1 / 10) d) fun d2 =>
    f_M_writesNumber_r2_14 x1 d2
def f_M_writesNumber_r3_14  (x1 : Int32)  (d : Dt) : Option Dt :=
  ob1 (f_M_writes (48 + (x1 - x1 / 10 * 10)) d) fun d1 =>
  some d1
def f_M_writesNumber_r3  (x1 : Int32) (d : Dt) : Option Dt :=
  if x1 ≤ 9 then
    f_M_writesNumber_r3_14 x1 d
  else
    ob1 (f_M_writesNumber_r2 (x1 / 10) d) fun d2 =>
    f_M_writesNumber_r3_14 x1 d2
def f_M_writesNumber_r4_14  (x1 : Int32)  (d : Dt) : Option Dt :=
  ob1 (f_M_writes (48 + (x1 - x1 / 10 * 10)) d) fun d1 =>
  some d1
def f_M_writesNumber_r4  (x1 : Int32) (d : Dt) : Option Dt :=
  if x1 ≤ 9 then
    f_M_writesNumber_r4_14 x1 d
  else
    ob1 (f_M_writesNumber_r3 (x1 / 10) d) fun d2 =>
    f_M_writesNumber_r4_14 x1 d2
def f_M_writesNumber_r5_14  (x1 : Int32)  (d : Dt) : Option Dt :=
  ob1 (f_M_writes (48 + (x1 - x1 / 10 * 10)) d) fun d1 =>
  some d1
def f_M_writesNumber_r5  (x1 : Int32) (d : Dt) : Option Dt :=
  if x1 ≤ 9 then
    f_M_writesNumber_r5_14 x1 d
  else
    ob1 (f_M_writesNumber_r4 (x1 / 10) d) fun d2 =>
    f_M_writesNumber_r5_14 x1 d2
def st_M_writeLantern_76  (x1 : Int32) (x2 : Int32) (d : Dt) : Option ((Int32 × Dt) ⊕ (Int32 × Dt)) :=
  ob1 (f_M_of x1 2 d) fun r1 =>
  if r1 ≤ x2 then
    ir (
      some ((d 292 13), d))
  else
    ob1 (f_M_writes 47 d) fun d2 =>
    ob1 (f_M_of x1 (3 + x2) d2) fun r3 =>
    ob1 (f_M_writesNumber_r5 r3 d2) fun d4 =>
    some (.inl ((x2 + 1), d4))
def f_M_writeLantern_76  (x1 : Int32) (x2 : Int32) (d : Dt) : Option (Int32 × Dt) := iter fu (fun s => st_M_writeLantern_76 x1 s.1 s.2) (x2, d)
def f_M_writeLantern_71  (x1 : Int32) (v1 : Int32) (d : Dt) : Option (Int32 × Dt) :=
  ob1 (f_M_writes v1 d) fun d5 =>
  f_M_writeLantern_76 x1 0 d5
def st_M_writeLantern_22  (x1 : Int32) (x2 : Int32) (d : Dt) : Option ((Int32 × Dt) ⊕ (Int32 × Dt)) :=
  ob1 (f_M_of x1 0 d) fun r6 =>
  if r6 ≤ x2 then
    ir (
      ob1 (f_M_of x1 1 d) fun r7 =>
      if r7 ≤ 0 then
        f_M_writeLantern_76 x1 0 d
      else
        ob1 (f_M_of x1 1 d) fun r8 =>
        if r8 = 1 then
          f_M_writeLantern_71 x1 103 d
        else
          f_M_writeLantern_71 x1 105 d)
  else
    ob1 (f_M_writes 42 d) fun d9 =>
    some (.inl ((x2 + 1), d9))
def f_M_writeLantern_22  (x1 : Int32) (x2 : Int32) (d : Dt) : Option (Int32 × Dt) := iter fu (fun s => st_M_writeLantern_22 x1 s.1 s.2) (x2, d)
def f_M_writeLantern  (x1 : Int32) (d : Dt) : Option (Int32 × Dt) :=
  ob2 (f_M_isNone x1 d) fun r10 d11 =>
  if r10 = 0 then
    bnd (wr d11 292 13 0) fun d12 =>
    ob1 (f_M_writesNumber_r5 x1 d12) fun d13 =>
    f_M_writeLantern_22 x1 0 d13
  else
    some (0, d11)
def f_M_writePlan_35  (x1 : Int32) (x2 : Int32)  (d : Dt) : Option ((Int32 × Dt) ⊕ (Int32 × Dt)) :=
  ob1 (f_M_hearing x1 x2 d) fun r1 =>
  ob1 (f_M_brief r1 0 d) fun r2 =>
  ob1 (f_M_writesNumber_r5 r2 d) fun d3 =>
  some (.inl ((x2 + 1), d3))
def st_M_writePlan_17  (x1 : Int32) (x2 : Int32) (d : Dt) : Option ((Int32 × Dt) ⊕ (Int32 × Dt)) :=
  ob1 (f_M_bits x1 d) fun r4 =>
  if r4 ≤ x2 then
    ir (
      some ((d 292 13), d))
  else
    if x2 ≤ 0 then
      f_M_writePlan_35 x1 x2 d
    else
      ob1 (f_M_writes 32 d) fun d5 =>
      f_M_writePlan_35 x1 x2 d5
def f_M_writePlan_17  (x1 : Int32) (x2 : Int32) (d : Dt) : Option (Int32 × Dt) := iter fu (fun s => st_M_writePlan_17 x1 s.1 s.2) (x2, d)
def f_M_writePlan   (d : Dt) : Option (Int32 × Dt) :=
  bnd (wr d 292 7 0) fun d6 =>
  ob1 (f_M_plan d6) fun r7 =>
  bnd (wr d6 292 13 0) fun d8 =>
  f_M_writePlan_17 r7 0 d8
def f_L_isFull   (d : Dt) : Option Int32 :=
  if (d 3 0) < 8 then
    some 0
  else
    some 1
def st_L_copyFrom_55 (a : Nat) (b : Nat) (x2 : Int32) (d : Dt) : Option ((Int32 × Dt) ⊕ Dt) :=
  if 8 ≤ x2 then
    ir (
      some d)
  else
    gd (inb x2 8) <|
    gd (inb x2 8) <|
    bnd (wrf d ((a + 5) + 1 + x2.toNatClampNeg) (va_cpy (d ((b + 5) + 1 + x2.toNatClampNeg)) (d ((a + 5) + 1 + x2.toNatClampNeg)) 0 0 8)) fun d1 =>
    some (.inl ((x2 + 1), d1))
def f_L_copyFrom_55 (a : Nat) (b : Nat) (x2 : Int32) (d : Dt) : Option Dt := iter fu (fun s => st_L_copyFrom_55 a b  s.1 s.2) (x2, d)
def f_L_copyFrom (a : Nat) (b : Nat)  (d : Dt) : Option Dt :=
  bnd (wr d (a + 1) 0 (d (b + 1) 0)) fun d2 =>
  bnd (wrf d2 (a + 2) (va_cpy (d2 (b + 2)) (d2 (a + 2)) 0 0 8)) fun d3 =>
  bnd (wrf d3 (a + 3) (va_cpy (d3 (b + 3)) (d3 (a + 3)) 0 0 8)) fun d4 =>
  bnd (wrf d4 (a + 4) (va_cpy (d4 (b + 4)) (d4 (a + 4)) 0 0 8)) fun d5 =>
  f_L_copyFrom_55 a b 0 d5
def f_B_copyFrom (a : Nat) (b : Nat)  (d : Dt) : Option Dt :=
  bnd (wr d (a + 14) 0 (d (b + 14) 0)) fun d1 =>
  bnd (wr d1 (a + 14) 1 (d1 (b + 14) 1)) fun d2 =>
  bnd (wrf d2 (a + 15) (va_cpy (d2 (b + 15)) (d2 (a + 15)) 0 0 10)) fun d3 =>
  bnd (wrf d3 (a + 16) (va_cpy (d3 (b + 16)) (d3 (a + 16)) 0 0 10)) fun d4 =>
  bnd (wrf d4 (a + 17) (va_cpy (d4 (b + 17)) (d4 (a + 17)) 0 0 10)) fun d5 =>
  bnd (wrf d5 (a + 18) (va_cpy (d5 (b + 18)) (d5 (a + 18)) 0 0 10)) fun d6 =>
  bnd (wrf d6 (a + 19) (va_cpy (d6 (b + 19)) (d6 (a + 19)) 0 0 10)) fun d7 =>
  some d7
def st_T_copyFrom_40 (a : Nat) (b : Nat) (x2 : Int32) (d : Dt) : Option ((Int32 × Dt) ⊕ Dt) :=
  if 12 ≤ x2 then
    ir (
      some d)
  else
    gd (inb x2 12) <|
    gd (inb x2 12) <|
    gd (nar .boolean (d (b + 23) x2.toNatClampNeg)) <|
    bnd (wr d (a + 23) x2.toNatClampNeg (d (b + 23) x2.toNatClampNeg)) fun d1 =>
    some (.inl ((x2 + 1), d1))
def f_T_copyFrom_40 (a : Nat) (b : Nat) (x2 : Int32) (d : Dt) : Option Dt := iter fu (fun s => st_T_copyFrom_40 a b  s.1 s.2) (x2, d)
def f_T_copyFrom (a : Nat) (b : Nat)  (d : Dt) : Option Dt :=
  bnd (wr d (a + 20) 0 (d (b + 20) 0)) fun d2 =>
  bnd (wrf d2 (a + 21) (va_cpy (d2 (b + 21)) (d2 (a + 21)) 0 0 12)) fun d3 =>
  bnd (wrf d3 (a + 22) (va_cpy (d3 (b + 22)) (d3 (a + 22)) 0 0 12)) fun d4 =>
  f_T_copyFrom_40 a b 0 d4
def f_S_copyFrom (a : Nat) (b : Nat)  (d : Dt) : Option Dt :=
  bnd (wr d a 0 (d b 0)) fun d1 =>
  ob1 (f_L_copyFrom a b d1) fun d2 =>
  ob1 (f_B_copyFrom a b d2) fun d3 =>
  ob1 (f_T_copyFrom a b d3) fun d4 =>
  bnd (wr d4 a 4 (d4 b 4)) fun d5 =>
  bnd (wr d5 a 5 (d5 b 5)) fun d6 =>
  bnd (wrf d6 (a + 24) (va_cpy (d6 (b + 24)) (d6 (a + 24)) 0 0 4)) fun d7 =>
  bnd (wr d7 a 7 (d7 b 7)) fun d8 =>
  bnd (wr d8 a 8 (d8 b 8)) fun d9 =>
  some d9
def f_C_remember_33   (v1 : Int32) (d : Dt) : Option Dt :=
  bnd (wr d 0 9 v1) fun d1 =>
  bnd (wr d1 0 10 (mnI ((d1 0 10) + 1) 8)) fun d2 =>
  some d2
def f_C_remember   (d : Dt) : Option Dt :=
  gd (inb (d 0 9) 8) <|
  ob1 (f_S_copyFrom (77 + 25 * (d 0 9).toNatClampNeg) 2 d) fun d3 =>
  if (d3 0 9) = 7 then
    f_C_remember_33 0 d3
  else
    f_C_remember_33 ((d3 0 9) + 1) d3
def f_L_add   (d : Dt) : Option (Int32 × Dt) :=
  gd (inb (d 3 0) 8) <|
  bnd (wr d 4 (d 3 0).toNatClampNeg 9) fun d1 =>
  gd (inb (d1 3 0) 8) <|
  bnd (wr d1 5 (d1 3 0).toNatClampNeg 0) fun d2 =>
  gd (inb (d2 3 0) 8) <|
  bnd (wr d2 6 (d2 3 0).toNatClampNeg 0) fun d3 =>
  bnd (wr d3 3 0 ((d3 3 0) + 1)) fun d4 =>
  some (((d4 3 0) - 1), d4)
def f_C_addLantern   (d : Dt) : Option ((Int32 × Dt) ⊕ (Nat × Dt)) :=
  ob1 (f_L_isFull d) fun r1 =>
  if r1 = 0 then
    ob1 (f_C_remember d) fun d2 =>
    ob2 (f_L_add d2) fun r3 d4 =>
    some (.inl (r3, d4))
  else
    some (.inr (0, d))
def f_L_setAdmission  (x1 : Int32) (x2 : Int32) (d : Dt) : Option (Int32 × Dt) :=
  gd (inb x1 8) <|
  gd (inb x1 8) <|
  bnd (wr d 5 x1.toNatClampNeg x2) fun d1 =>
  some ((d 5 x1.toNatClampNeg), d1)
def f_L_has  (x1 : Int32) (d : Dt) : Option Int32 :=
  if x1 < 0 then
    some 0
  else
    if (d 3 0) ≤ x1 then
      some 0
    else
      some 1
def f_C_checkLantern  (x1 : Int32) (d : Dt) : Option (Unit ⊕ Nat) :=
  ob1 (f_L_has x1 d) fun r1 =>
  if r1 = 0 then
    some (.inr 1)
  else
    some (.inl ())
def f_L_admits_15   (v0 : Int32) (v1 : Int32) (d : Dt) : Option Int32 :=
  if v0 = v1 then
    some 1
  else
    some 0
def f_L_admits  (x1 : Int32) (x2 : Int32) (d : Dt) : Option Int32 :=
  gd (inb x1 8) <|
  if x2 = 0 then
    f_L_admits_15 (d 5 x1.toNatClampNeg) 2 d
  else
    f_L_admits_15 (d 5 x1.toNatClampNeg) 1 d
def f_C_admit_55   (v1 : Int32) (v2 : Int32) (d : Dt) : Option ((Int32 × Dt) ⊕ (Nat × Dt)) :=
  ob2 (f_L_setAdmission v1 v2 d) fun r1 d2 =>
  if r1 = 0 then
    some (.inl (0, d2))
  else
    some (.inl (1, d2))
def f_C_admit  (x1 : Int32) (x2 : Int32) (d : Dt) : Option ((Int32 × Dt) ⊕ (Nat × Dt)) :=
  ocU (f_C_checkLantern x1 d) (
    ob1 (f_L_admits x1 x2 d) fun r4 =>
    if r4 = 0 then
      ob1 (f_C_remember d) fun d5 =>
      if x2 = 0 then
        f_C_admit_55 x1 2 d5
      else
        f_C_admit_55 x1 1 d5
    else
      some (.inr (0, d))) (fun et2 => some (.inr (et2, d)))
def f_C_briefAt_18    (d : Dt) : Option (Int32 ⊕ Nat) :=
  some (.inr 3)
def f_C_briefAt  (x1 : Int32) (d : Dt) : Option (Int32 ⊕ Nat) :=
  if x1 < 0 then
    f_C_briefAt_18 d
  else
    if x1 < (d 16 0) then
      gd (inb x1 10) <|
      some (.inl (d 17 x1.toNatClampNeg))
    else
      f_C_briefAt_18 d
def f_C_briefCount   (d : Dt) : Option Int32 :=
  some (d 16 0)
def f_C_brightness  (x1 : Int32) (d : Dt) : Option (Int32 ⊕ Nat) :=
  ocU (f_C_checkLantern x1 d) (
    gd (inb x1 8) <|
    some (.inl (d 4 x1.toNatClampNeg))) (fun et0 => some (.inr et0))
def f_C_canPass  (x0 : Int32) (d : Dt) : Option Int32 :=
  if x0 < 1 then
    some 0
  else
    if 9 < x0 then
      some 0
    else
      some 1
def f_I_isAtEnd   (d : Dt) : Option Int32 :=
  if (d 287 1) ≤ (d 287 2) then
    some 1
  else
    gd (inb (d 287 2) 60) <|
    if (d 288 (d 287 2).toNatClampNeg) = 59 then
      some 1
    else
      some 0
def f_I_isDigit  (x0 : Int32) (d : Dt) : Option Int32 :=
  if x0 < 48 then
    some 0
  else
    if 57 < x0 then
      some 0
    else
      some 1
def f_I_readNumber_69  (x2 : Int32) (x3 : Int32)  (d : Dt) : Option (Int32 × Dt) :=
  if x3 = 0 then
    some (0, d)
  else
    if (d 287 5) < 4 then
      gd (inb (d 287 5) 4) <|
      bnd (wr d 289 (d 287 5).toNatClampNeg x2) fun d1 =>
      bnd (wr d1 287 5 ((d1 287 5) + 1)) fun d2 =>
      some (1, d2)
    else
      some (0, d)
def st_I_readNumber_4  (x1 : Int32) (x2 : Int32) (x3 : Int32) (d : Dt) : Option ((Int32 × Int32 × Dt) ⊕ (Int32 × Dt)) :=
  if x1 ≤ x3 then
    ir (
      f_I_readNumber_69 x2 x3 d)
  else
    if (d 287 1) ≤ (d 287 2) then
      ir (
        f_I_readNumber_69 x2 x3 d)
    else
      gd (inb (d 287 2) 60) <|
      ob1 (f_I_isDigit (d 288 (d 287 2).toNatClampNeg) d) fun r3 =>
      if r3 = 0 then
        ir (
          f_I_readNumber_69 x2 x3 d)
      else
        gd (inb (d 287 2) 60) <|
        bnd (wr d 287 2 ((d 287 2) + 1)) fun d4 =>
        some (.inl (((x2 * 10) + ((d 288 (d 287 2).toNatClampNeg) - 48)), (x3 + 1), d4))
def f_I_readNumber_4  (x1 : Int32) (x2 : Int32) (x3 : Int32) (d : Dt) : Option (Int32 × Dt) := iter fu (fun s => st_I_readNumber_4 x1 s.1 s.2.1 s.2.2) (x2, x3, d)
def f_I_readNumber  (x1 : Int32) (d : Dt) : Option (Int32 × Dt) :=
  f_I_readNumber_4 x1 0 0 d
def f_I_readCharacter  (x1 : Int32) (d : Dt) : Option (Int32 × Dt) :=
  if (d 287 1) ≤ (d 287 2) then
    some (0, d)
  else
    gd (inb (d 287 2) 60) <|
    if (d 288 (d 287 2).toNatClampNeg) = x1 then
      bnd (wr d 287 2 ((d 287 2) + 1)) fun d1 =>
      some (1, d1)
    else
      some (0, d)
def f_I_readPart  (x1 : Int32) (d : Dt) : Option (Int32 × Dt) :=
  if x1 = 32 then
    ob2 (f_I_readCharacter 32 d) fun r13 d14 =>
    gd (nar .boolean r13) <|
    some (r13, d14)
  else
    if x1 = 43 then
      ob2 (f_I_readCharacter 43 d) fun r8 d9 =>
      gd (nar .boolean r8) <|
      bnd (wr d9 287 6 r8) fun d10 =>
      if (d10 287 6) = 0 then
        ob2 (f_I_readCharacter 45 d10) fun r11 d12 =>
        if r11 = 0 then
          some (0, d12)
        else
          some (1, d12)
      else
        some (1, d10)
    else
      if x1 = 103 then
        ob2 (f_I_readCharacter 103 d) fun r3 d4 =>
        gd (nar .boolean r3) <|
        bnd (wr d4 287 6 r3) fun d5 =>
        if (d5 287 6) = 0 then
          ob2 (f_I_readCharacter 105 d5) fun r6 d7 =>
          if r6 = 0 then
            some (0, d7)
          else
            some (1, d7)
        else
          some (1, d5)
      else
        ob2 (f_I_readNumber (x1 - 48) d) fun r1 d2 =>
        gd (nar .boolean r1) <|
        some (r1, d2)
def st_I_lettersInCommon_2 (k1 : Nat) (x2 : Int32) (d : Dt) : Option ((Int32) ⊕ Int32) :=
  ob1 (f_JS_length k1 d) fun r1 =>
  if r1 ≤ x2 then
    ir (
      some x2)
  else
    if (d 287 1) ≤ ((d 287 2) + x2) then
      ir (
        some x2)
    else
      gd (inb ((d 287 2) + x2) 60) <|
      ob1 (f_JS_charAt k1 x2 d) fun r2 =>
      if (d 288 ((d 287 2) + x2).toNatClampNeg) = r2 then
        some (.inl (x2 + 1))
      else
        ir (
          some x2)
def f_I_lettersInCommon_2 (k1 : Nat) (x2 : Int32) (d : Dt) : Option Int32 := iter fu (fun s => st_I_lettersInCommon_2 k1  s d) x2
def f_I_lettersInCommon (k1 : Nat)  (d : Dt) : Option Int32 :=
  f_I_lettersInCommon_2 k1 0 d
def st_I_readKeyword_4  (x1 : Int32) (x2 : Int32) (d : Dt) : Option ((Int32 × Int32) ⊕ (Int32 × Dt)) :=
  if 8 ≤ x2 then
    ir (
      bnd (wr d 287 2 ((d 287 2) + x1)) fun d1 =>
      some (0, d1))
  else
    gd (inb x2 8) <|
    ob1 (f_I_lettersInCommon (kwS x2.toNatClampNeg) d) fun r2 =>
    ob1 (f_JS_length (kwS x2.toNatClampNeg) d) fun r3 =>
    if r2 = r3 then
      ir (
        gd (inb x2 8) <|
        bnd (wr d 287 3 x2) fun d4 =>
        bnd (wr d4 287 2 ((d4 287 2) + r2)) fun d5 =>
        some (1, d5))
    else
      some (.inl ((mxI x1 r2), (x2 + 1)))
def f_I_readKeyword_4  (x1 : Int32) (x2 : Int32) (d : Dt) : Option (Int32 × Dt) := iter fu (fun s => st_I_readKeyword_4  s.1 s.2 d) (x1, x2)
def f_I_readKeyword   (d : Dt) : Option (Int32 × Dt) :=
  f_I_readKeyword_4 0 0 d
def st_I_readCommand_23  (x1 : Int32) (d : Dt) : Option ((Int32 × Dt) ⊕ (Int32 × Dt)) :=
  gd (inb (d 287 3) 8) <|
  ob1 (f_JS_length (fmS (d 287 3).toNatClampNeg) d) fun r1 =>
  if r1 ≤ x1 then
    ir (
      ob1 (f_I_isAtEnd d) fun r2 =>
      gd (nar .boolean r2) <|
      some (r2, d))
  else
    gd (inb (d 287 3) 8) <|
    ob1 (f_JS_charAt (fmS (d 287 3).toNatClampNeg) x1 d) fun r3 =>
    if r3 = 63 then
      ob1 (f_I_isAtEnd d) fun r6 =>
      if r6 = 0 then
        some (.inl ((x1 + 1), d))
      else
        ir (
          some (1, d))
    else
      ob2 (f_I_readPart r3 d) fun r4 d5 =>
      if r4 = 0 then
        ir (
          some (0, d5))
      else
        some (.inl ((x1 + 1), d5))
def f_I_readCommand_23  (x1 : Int32) (d : Dt) : Option (Int32 × Dt) := iter fu (fun s => st_I_readCommand_23  s.1 s.2) (x1, d)
def f_I_readCommand   (d : Dt) : Option (Int32 × Dt) :=
  ob2 (f_I_readKeyword d) fun r7 d8 =>
  if r7 = 0 then
    some (0, d8)
  else
    bnd (wr d8 289 0 1) fun d9 =>
    bnd (wr d9 287 5 0) fun d10 =>
    f_I_readCommand_23 0 d10
def f_B_isInRange  (x0 : Int32) (x1 : Int32) (x2 : Int32) (d : Dt) : Option Int32 :=
  if x0 < 1 then
    some 0
  else
    if 12 < x0 then
      some 0
    else
      if x1 < 1 then
        some 0
      else
        if 50 < x1 then
          some 0
        else
          if x2 < 1 then
            some 0
          else
            if 9 < x2 then
              some 0
            else
              some 1
def f_B_isFull   (d : Dt) : Option Int32 :=
  if (d 16 0) < 10 then
    some 0
  else
    some 1
def st_B_positionOf_2  (x1 : Int32) (x2 : Int32) (d : Dt) : Option ((Int32) ⊕ Int32) :=
  if (d 16 0) ≤ x2 then
    ir (
      some (-1))
  else
    gd (inb x2 10) <|
    if (d 17 x2.toNatClampNeg) = x1 then
      ir (
        some x2)
    else
      some (.inl (x2 + 1))
def f_B_positionOf_2  (x1 : Int32) (x2 : Int32) (d : Dt) : Option Int32 := iter fu (fun s => st_B_positionOf_2 x1 s d) x2
def f_B_positionOf  (x1 : Int32) (d : Dt) : Option Int32 :=
  f_B_positionOf_2 x1 0 d
def f_T_isFull   (d : Dt) : Option Int32 :=
  if (d 22 0) < 12 then
    some 0
  else
    some 1
def f_T_has  (x1 : Int32) (d : Dt) : Option Int32 :=
  if x1 < 0 then
    some 0
  else
    if (d 22 0) ≤ x1 then
      some 0
    else
      some 1
def f_L_serves  (x1 : Int32) (d : Dt) : Option Int32 :=
  gd (inb x1 8) <|
  if (d 6 x1.toNatClampNeg) ≤ 0 then
    some 0
  else
    some 1
def f_C_isPossible (x1 : Int32) (x3 : Int32) (d : Dt) : Option Int32 :=
  gd (inb x1 8) <|
  if (smS x1.toNatClampNeg) = 1 then
    ob1 (f_L_isFull d) fun r1 =>
    if r1 = 0 then
      some 1
    else
      some 0
  else
  if (smS x1.toNatClampNeg) = 2 then
    ob1 (f_L_has (d 289 0) d) fun r2 =>
    if r2 = 0 then
      some 0
    else
      ob1 (f_B_isInRange (d 289 1) (d 289 2) (d 289 3) d) fun r3 =>
      if r3 = 0 then
        some 0
      else
        ob1 (f_B_isFull d) fun r4 =>
        if r4 = 0 then
          some 1
        else
          some 0
  else
  if (smS x1.toNatClampNeg) = 3 then
    ob1 (f_B_positionOf (d 289 0) d) fun r5 =>
    if r5 = (-1) then
      some 0
    else
      some 1
  else
  if (smS x1.toNatClampNeg) = 4 then
    ob1 (f_L_has (d 289 0) d) fun r6 =>
    if r6 = 0 then
      some 0
    else
      ob1 (f_L_has (d 289 1) d) fun r7 =>
      if r7 = 0 then
        some 0
      else
        if (d 289 0) = (d 289 1) then
          some 0
        else
          ob1 (f_T_isFull d) fun r8 =>
          if r8 = 0 then
            some 1
          else
            some 0
  else
  if (smS x1.toNatClampNeg) = 5 then
    ob1 (f_T_has (d 289 0) d) fun r9 =>
    gd (nar .boolean r9) <|
    some r9
  else
  if (smS x1.toNatClampNeg) = 6 then
    ob1 (f_L_has (d 289 0) d) fun r10 =>
    if r10 = 0 then
      some 0
    else
      ob1 (f_L_admits (d 289 0) x3 d) fun r11 =>
      if r11 = 0 then
        some 1
      else
        some 0
  else
  if (smS x1.toNatClampNeg) = 7 then
    ob1 (f_L_has (d 289 0) d) fun r12 =>
    if r12 = 0 then
      some 0
    else
      ob1 (f_L_serves (d 289 0) d) fun r13 =>
      if r13 = 0 then
        some 0
      else
        some 1
  else
    ob1 (f_C_canPass (d 289 0) d) fun r14 =>
    gd (nar .boolean r14) <|
    some r14
def f_B_add  (x1 : Int32) (x2 : Int32) (x3 : Int32) (x4 : Int32) (d : Dt) : Option (Int32 × Dt) :=
  gd (inb (d 16 0) 10) <|
  bnd (wr d 17 (d 16 0).toNatClampNeg (d 16 1)) fun d1 =>
  gd (inb (d1 16 0) 10) <|
  bnd (wr d1 18 (d1 16 0).toNatClampNeg x1) fun d2 =>
  gd (inb (d2 16 0) 10) <|
  bnd (wr d2 19 (d2 16 0).toNatClampNeg x2) fun d3 =>
  gd (inb (d3 16 0) 10) <|
  bnd (wr d3 20 (d3 16 0).toNatClampNeg x3) fun d4 =>
  gd (inb (d4 16 0) 10) <|
  bnd (wr d4 21 (d4 16 0).toNatClampNeg x4) fun d5 =>
  bnd (wr d5 16 0 ((d5 16 0) + 1)) fun d6 =>
  bnd (wr d6 16 1 ((d6 16 1) + 1)) fun d7 =>
  some (((d7 16 1) - 1), d7)
def f_S_takeBrief  (x1 : Int32) (x2 : Int32) (x3 : Int32) (x4 : Int32) (d : Dt) : Option (Int32 × Dt) :=
  bnd (wr d 2 4 ((d 2 4) + x3)) fun d1 =>
  ob2 (f_B_add x1 ((d1 2 0) + x2) x3 x4 d1) fun r2 d3 =>
  some (r2, d3)
def st_B_remove_12  (x2 : Int32) (d : Dt) : Option ((Int32 × Dt) ⊕ Dt) :=
  if (d 16 0) ≤ x2 then
    ir (
      some d)
  else
    gd (inb (x2 + 1) 10) <|
    gd (inb x2 10) <|
    bnd (wr d 17 x2.toNatClampNeg (d 17 (x2 + 1).toNatClampNeg)) fun d1 =>
    gd (inb (x2 + 1) 10) <|
    gd (inb x2 10) <|
    bnd (wr d1 18 x2.toNatClampNeg (d1 18 (x2 + 1).toNatClampNeg)) fun d2 =>
    gd (inb (x2 + 1) 10) <|
    gd (inb x2 10) <|
    bnd (wr d2 19 x2.toNatClampNeg (d2 19 (x2 + 1).toNatClampNeg)) fun d3 =>
    gd (inb (x2 + 1) 10) <|
    gd (inb x2 10) <|
    bnd (wr d3 20 x2.toNatClampNeg (d3 20 (x2 + 1).toNatClampNeg)) fun d4 =>
    gd (inb (x2 + 1) 10) <|
    gd (inb x2 10) <|
    bnd (wr d4 21 x2.toNatClampNeg (d4 21 (x2 + 1).toNatClampNeg)) fun d5 =>
    some (.inl ((x2 + 1), d5))
def f_B_remove_12  (x2 : Int32) (d : Dt) : Option Dt := iter fu (fun s => st_B_remove_12  s.1 s.2) (x2, d)
def f_B_remove  (x1 : Int32) (d : Dt) : Option Dt :=
  bnd (wr d 16 0 ((d 16 0) - 1)) fun d6 =>
  f_B_remove_12 x1 d6
def f_S_giveBack  (x1 : Int32) (d : Dt) : Option (Int32 × Dt) :=
  gd (inb x1 10) <|
  bnd (wr d 2 5 ((d 2 5) + ((d 20 x1.toNatClampNeg) / 2))) fun d1 =>
  ob1 (f_B_remove x1 d1) fun d2 =>
  some (((d 20 x1.toNatClampNeg) / 2), d2)
def f_T_add  (x1 : Int32) (x2 : Int32) (x3 : Int32) (d : Dt) : Option (Int32 × Dt) :=
  gd (inb (d 22 0) 12) <|
  bnd (wr d 23 (d 22 0).toNatClampNeg x1) fun d1 =>
  gd (inb (d1 22 0) 12) <|
  bnd (wr d1 24 (d1 22 0).toNatClampNeg x2) fun d2 =>
  gd (inb (d2 22 0) 12) <|
  gd (nar .boolean x3) <|
  bnd (wr d2 25 (d2 22 0).toNatClampNeg x3) fun d3 =>
  bnd (wr d3 22 0 ((d3 22 0) + 1)) fun d4 =>
  some (((d4 22 0) - 1), d4)
def st_T_remove_12  (x2 : Int32) (d : Dt) : Option ((Int32 × Dt) ⊕ (Int32 × Dt)) :=
  if (d 22 0) ≤ x2 then
    ir (
      some ((d 22 0), d))
  else
    gd (inb (x2 + 1) 12) <|
    gd (inb x2 12) <|
    bnd (wr d 23 x2.toNatClampNeg (d 23 (x2 + 1).toNatClampNeg)) fun d1 =>
    gd (inb (x2 + 1) 12) <|
    gd (inb x2 12) <|
    bnd (wr d1 24 x2.toNatClampNeg (d1 24 (x2 + 1).toNatClampNeg)) fun d2 =>
    gd (inb (x2 + 1) 12) <|
    gd (inb x2 12) <|
    gd (nar .boolean (d2 25 (x2 + 1).toNatClampNeg)) <|
    bnd (wr d2 25 x2.toNatClampNeg (d2 25 (x2 + 1).toNatClampNeg)) fun d3 =>
    some (.inl ((x2 + 1), d3))
def f_T_remove_12  (x2 : Int32) (d : Dt) : Option (Int32 × Dt) := iter fu (fun s => st_T_remove_12  s.1 s.2) (x2, d)
def f_T_remove  (x1 : Int32) (d : Dt) : Option (Int32 × Dt) :=
  bnd (wr d 22 0 ((d 22 0) - 1)) fun d4 =>
  f_T_remove_12 x1 d4
def st_L_endSentence_24  (x1 : Int32) (x3 : Int32) (x4 : Int32) (d : Dt) : Option ((Int32 × Dt) ⊕ (Int32 × Dt)) :=
  gd (inb x1 8) <|
  if (d 6 x1.toNatClampNeg) ≤ x4 then
    ir (
      some (x3, d))
  else
    gd (inb (x4 + 1) 8) <|
    gd (inb x4 8) <|
    bnd (wr d (8 + x1.toNatClampNeg) x4.toNatClampNeg (d (8 + x1.toNatClampNeg) (x4 + 1).toNatClampNeg)) fun d1 =>
    some (.inl ((x4 + 1), d1))
def f_L_endSentence_24  (x1 : Int32) (x3 : Int32) (x4 : Int32) (d : Dt) : Option (Int32 × Dt) := iter fu (fun s => st_L_endSentence_24 x1 x3 s.1 s.2) (x4, d)
def f_L_endSentence  (x1 : Int32) (d : Dt) : Option (Int32 × Dt) :=
  gd (inb x1 8) <|
  gd (inb x1 8) <|
  gd (inb x1 8) <|
  bnd (wr d 6 x1.toNatClampNeg ((d 6 x1.toNatClampNeg) - 1)) fun d2 =>
  f_L_endSentence_24 x1 (d (8 + x1.toNatClampNeg) 0) 0 d2
def st_S_letLapse_10  (x1 : Int32) (d : Dt) : Option ((Int32 × Dt) ⊕ Dt) :=
  if x1 < 0 then
    ir (
      some d)
  else
    gd (inb x1 10) <|
    if (d 2 0) < (d 19 x1.toNatClampNeg) then
      some (.inl ((x1 + (-1)), d))
    else
      gd (inb x1 10) <|
      bnd (wr d 2 5 ((d 2 5) + (d 20 x1.toNatClampNeg))) fun d1 =>
      bnd (wr d1 2 7 ((d1 2 7) + 1)) fun d2 =>
      ob1 (f_B_remove x1 d2) fun d3 =>
      some (.inl ((x1 + (-1)), d3))
def f_S_letLapse_10  (x1 : Int32) (d : Dt) : Option Dt := iter fu (fun s => st_S_letLapse_10  s.1 s.2) (x1, d)
def f_S_letLapse   (d : Dt) : Option Dt :=
  f_S_letLapse_10 ((d 16 0) - 1) d
def st_L_liveOneDay_4  (x1 : Int32) (x2 : Int32) (d : Dt) : Option ((Int32 × Int32 × Dt) ⊕ (Int32 × Dt)) :=
  if (d 3 0) ≤ x2 then
    ir (
      some (x1, d))
  else
    ob1 (f_L_serves x2 d) fun r1 =>
    if r1 = 0 then
      gd (inb x2 8) <|
      gd (inb x2 8) <|
      bnd (wr d 4 x2.toNatClampNeg (mnI ((d 4 x2.toNatClampNeg) + 1) 9)) fun d2 =>
      some (.inl (x1, (x2 + 1), d2))
    else
      gd (inb x2 8) <|
      gd (inb x2 8) <|
      bnd (wr d 4 x2.toNatClampNeg (mxI ((d 4 x2.toNatClampNeg) - 1) 0)) fun d3 =>
      gd (inb x2 8) <|
      bnd (wr d3 (8 + x2.toNatClampNeg) 0 ((d3 (8 + x2.toNatClampNeg) 0) - 1)) fun d4 =>
      gd (inb x2 8) <|
      if (d4 (8 + x2.toNatClampNeg) 0) = 0 then
        ob2 (f_L_endSentence x2 d4) fun r5 d6 =>
        some (.inl ((x1 + 1), (x2 + 1), d6))
      else
        some (.inl ((x1 + 1), (x2 + 1), d4))
def f_L_liveOneDay_4  (x1 : Int32) (x2 : Int32) (d : Dt) : Option (Int32 × Dt) := iter fu (fun s => st_L_liveOneDay_4  s.1 s.2.1 s.2.2) (x1, x2, d)
def f_L_liveOneDay   (d : Dt) : Option (Int32 × Dt) :=
  f_L_liveOneDay_4 0 0 d
def f_P_isDueBefore  (x1 : Int32) (x2 : Int32) (d : Dt) : Option Int32 :=
  gd (inb x1 10) <|
  gd (inb x2 10) <|
  if (d 19 x1.toNatClampNeg) = (d 19 x2.toNatClampNeg) then
    if x2 ≤ x1 then
      some 0
    else
      some 1
  else
    if (d 19 x2.toNatClampNeg) ≤ (d 19 x1.toNatClampNeg) then
      some 0
    else
      some 1
def st_P_orderHearings_15  (x2 : Int32) (x3 : Int32) (x4 : Int32) (d : Dt) : Option ((Int32 × Int32) ⊕ ((Int32 × Dt) ⊕ Dt)) :=
  if (d 16 0) ≤ x4 then
    ir (
      if (((d 277 1) >>> (x2 &&& 31)) &&& 1) = 1 then
        gd (inb x3 10) <|
        bnd (wr d 278 x3.toNatClampNeg x2) fun d1 =>
        some (.inl ((x2 + 1), d1))
      else
        some (.inl ((x2 + 1), d)))
  else
    if (((d 277 1) >>> (x4 &&& 31)) &&& 1) = 1 then
      ob1 (f_P_isDueBefore x4 x2 d) fun r2 =>
      if r2 = 0 then
        some (.inl (x3, (x4 + 1)))
      else
        some (.inl ((x3 + 1), (x4 + 1)))
    else
      some (.inl (x3, (x4 + 1)))
def f_P_orderHearings_15  (x2 : Int32) (x3 : Int32) (x4 : Int32) (d : Dt) : Option ((Int32 × Dt) ⊕ Dt) := iter fu (fun s => st_P_orderHearings_15 x2 s.1 s.2 d) (x3, x4)
def st_P_orderHearings_2  (x2 : Int32) (d : Dt) : Option ((Int32 × Dt) ⊕ Dt) :=
  if (d 16 0) ≤ x2 then
    ir (
      some d)
  else
    f_P_orderHearings_15 x2 0 0 d
def f_P_orderHearings_2  (x2 : Int32) (d : Dt) : Option Dt := iter fu (fun s => st_P_orderHearings_2  s.1 s.2) (x2, d)
def f_P_orderHearings   (d : Dt) : Option Dt :=
  f_P_orderHearings_2 0 d
def f_JI_bitCount  (x0 : Int32) (d : Dt) : Option Int32 :=
  bnd (x0 - (((x0.toUInt32 >>> ((1 : Int32).toUInt32 &&& Int32.toUInt32 31)).toInt32) &&& 1431655765)) fun t1 =>
  bnd ((t1 &&& 858993459) + (((t1.toUInt32 >>> ((2 : Int32).toUInt32 &&& Int32.toUInt32 31)).toInt32) &&& 858993459)) fun t2 =>
  bnd ((t2 + ((t2.toUInt32 >>> ((4 : Int32).toUInt32 &&& Int32.toUInt32 31)).toInt32)) &&& 252645135) fun t3 =>
  bnd (t3 + ((t3.toUInt32 >>> ((8 : Int32).toUInt32 &&& Int32.toUInt32 31)).toInt32)) fun t4 =>
  bnd (t4 + ((t4.toUInt32 >>> ((16 : Int32).toUInt32 &&& Int32.toUInt32 31)).toInt32)) fun t5 =>
  some (t5 &&& 63)
def st_P_isPossible_2  (x1 : Int32) (x2 : Int32) (d : Dt) : Option ((Int32) ⊕ Int32) :=
  if 13 ≤ x2 then
    ir (
      some 1)
  else
    gd (inb x2 13) <|
    ob1 (f_JI_bitCount (x1 &&& (d 280 x2.toNatClampNeg)) d) fun r1 =>
    if r1 ≤ x2 then
      some (.inl (x2 + 1))
    else
      ir (
        some 0)
def f_P_isPossible_2  (x1 : Int32) (x2 : Int32) (d : Dt) : Option Int32 := iter fu (fun s => st_P_isPossible_2 x1 s d) x2
def f_P_isPossible  (x1 : Int32) (d : Dt) : Option Int32 :=
  f_P_isPossible_2 x1 0 d
def st_P_findDueSets_21  (x2 : Int32) (x3 : Int32) (x4 : Int32) (d : Dt) : Option ((Int32 × Dt) ⊕ ((Int32 × Dt) ⊕ Dt)) :=
  if (d 16 0) ≤ x4 then
    ir (
      some (.inl ((x3 + 1), d)))
  else
    gd (inb x4 10) <|
    if x3 < ((d 19 x4.toNatClampNeg) - x2) then
      some (.inl ((x4 + 1), d))
    else
      gd (inb x3 13) <|
      gd (inb x3 13) <|
      bnd (wr d 280 x3.toNatClampNeg ((d 280 x3.toNatClampNeg) ||| (1 <<< (x4 &&& 31)))) fun d1 =>
      some (.inl ((x4 + 1), d1))
def f_P_findDueSets_21  (x2 : Int32) (x3 : Int32) (x4 : Int32) (d : Dt) : Option ((Int32 × Dt) ⊕ Dt) := iter fu (fun s => st_P_findDueSets_21 x2 x3 s.1 s.2) (x4, d)
def st_P_findDueSets_2  (x2 : Int32) (x3 : Int32) (d : Dt) : Option ((Int32 × Dt) ⊕ Dt) :=
  if 13 ≤ x3 then
    ir (
      some d)
  else
    gd (inb x3 13) <|
    bnd (wr d 280 x3.toNatClampNeg 0) fun d2 =>
    f_P_findDueSets_21 x2 x3 0 d2
def f_P_findDueSets_2  (x2 : Int32) (x3 : Int32) (d : Dt) : Option Dt := iter fu (fun s => st_P_findDueSets_2 x2 s.1 s.2) (x3, d)
def f_P_findDueSets  (x2 : Int32) (d : Dt) : Option Dt :=
  f_P_findDueSets_2 x2 0 d
def st_P_orderVisits_15  (x2 : Int32) (x3 : Int32) (x4 : Int32) (d : Dt) : Option ((Int32 × Int32) ⊕ ((Int32 × Dt) ⊕ Dt)) :=
  if (d 16 0) ≤ x4 then
    ir (
      gd (inb x3 10) <|
      bnd (wr d 279 x3.toNatClampNeg x2) fun d1 =>
      some (.inl ((x2 + 1), d1)))
  else
    gd (inb x4 10) <|
    gd (inb x2 10) <|
    if 0 < ((d 20 x4.toNatClampNeg) - (d 20 x2.toNatClampNeg)) then
      some (.inl ((x3 + 1), (x4 + 1)))
    else
      if ((d 20 x4.toNatClampNeg) - (d 20 x2.toNatClampNeg)) = 0 then
        ob1 (f_P_isDueBefore x4 x2 d) fun r2 =>
        if r2 = 0 then
          some (.inl (x3, (x4 + 1)))
        else
          some (.inl ((x3 + 1), (x4 + 1)))
      else
        some (.inl (x3, (x4 + 1)))
def f_P_orderVisits_15  (x2 : Int32) (x3 : Int32) (x4 : Int32) (d : Dt) : Option ((Int32 × Dt) ⊕ Dt) := iter fu (fun s => st_P_orderVisits_15 x2 s.1 s.2 d) (x3, x4)
def st_P_orderVisits_2  (x2 : Int32) (d : Dt) : Option ((Int32 × Dt) ⊕ Dt) :=
  if (d 16 0) ≤ x2 then
    ir (
      some d)
  else
    f_P_orderVisits_15 x2 0 0 d
def f_P_orderVisits_2  (x2 : Int32) (d : Dt) : Option Dt := iter fu (fun s => st_P_orderVisits_2  s.1 s.2) (x2, d)
def f_P_orderVisits   (d : Dt) : Option Dt :=
  f_P_orderVisits_2 0 d
def st_P_make_23  (x3 : Int32) (d : Dt) : Option ((Int32 × Dt) ⊕ Dt) :=
  if (d 16 0) ≤ x3 then
    ir (
      ob1 (f_P_orderHearings d) fun d1 =>
      some d1)
  else
    gd (inb x3 10) <|
    ob1 (f_P_isPossible ((d 277 1) ||| (1 <<< ((d 279 x3.toNatClampNeg) &&& 31))) d) fun r2 =>
    if r2 = 0 then
      some (.inl ((x3 + 1), d))
    else
      bnd (wr d 277 1 ((d 277 1) ||| (1 <<< ((d 279 x3.toNatClampNeg) &&& 31)))) fun d3 =>
      bnd (wr d3 277 0 ((d3 277 0) + 1)) fun d4 =>
      some (.inl ((x3 + 1), d4))
def f_P_make_23  (x3 : Int32) (d : Dt) : Option Dt := iter fu (fun s => st_P_make_23  s.1 s.2) (x3, d)
def f_P_make  (x2 : Int32) (d : Dt) : Option Dt :=
  ob1 (f_P_findDueSets x2 d) fun d5 =>
  ob1 (f_P_orderVisits d5) fun d6 =>
  bnd (wr d6 277 1 0) fun d7 =>
  bnd (wr d7 277 0 0) fun d8 =>
  f_P_make_23 0 d8
def f_G_join_67   (v1 : Int32) (v2 : Int32) (d : Dt) : Option Dt :=
  gd (inb v1 8) <|
  gd (nar .boolean v2) <|
  bnd (wr d 284 v1.toNatClampNeg v2) fun d1 =>
  some d1
def f_G_join_62   (v1 : Int32) (d : Dt) : Option Dt :=
  f_G_join_67 v1 1 d
def st_G_join_104  (x4 : Int32) (x5 : Int32) (x6 : Int32) (x7 : Int32) (d : Dt) : Option ((Int32 × Dt) ⊕ Dt) :=
  if (d 281 0) ≤ x7 then
    ir (
      some d)
  else
    gd (inb x7 8) <|
    if (d 282 x7.toNatClampNeg) = x5 then
      gd (inb x7 8) <|
      bnd (wr d 282 x7.toNatClampNeg x4) fun d2 =>
      gd (inb x7 8) <|
      gd (inb x7 8) <|
      bnd (wr d2 283 x7.toNatClampNeg ((d2 283 x7.toNatClampNeg) ^^^ x6)) fun d3 =>
      some (.inl ((x7 + 1), d3))
    else
      some (.inl ((x7 + 1), d))
def f_G_join_104  (x4 : Int32) (x5 : Int32) (x6 : Int32) (x7 : Int32) (d : Dt) : Option Dt := iter fu (fun s => st_G_join_104 x4 x5 x6 s.1 s.2) (x7, d)
def f_G_join_100  (x4 : Int32) (x5 : Int32) (x6 : Int32) (v1 : Int32) (v2 : Int32) (d : Dt) : Option Dt :=
  gd (inb v1 8) <|
  gd (nar .boolean v2) <|
  bnd (wr d 284 v1.toNatClampNeg v2) fun d4 =>
  f_G_join_104 x4 x5 x6 0 d4
def f_G_join_95  (x4 : Int32) (x5 : Int32) (x6 : Int32) (v1 : Int32) (d : Dt) : Option Dt :=
  f_G_join_100 x4 x5 x6 v1 1 d
def f_G_join  (x1 : Int32) (x2 : Int32) (x3 : Int32) (d : Dt) : Option Dt :=
  gd (inb x1 8) <|
  gd (inb x2 8) <|
  gd (inb x1 8) <|
  gd (inb x2 8) <|
  bnd (((d 283 x1.toNatClampNeg) ^^^ (d 283 x2.toNatClampNeg)) ^^^ x3) fun t5 =>
  if (d 282 x1.toNatClampNeg) = (d 282 x2.toNatClampNeg) then
    gd (inb (d 282 x1.toNatClampNeg) 8) <|
    if (d 284 (d 282 x1.toNatClampNeg).toNatClampNeg) = 0 then
      if t5 = 1 then
        f_G_join_62 (d 282 x1.toNatClampNeg) d
      else
        f_G_join_67 (d 282 x1.toNatClampNeg) 0 d
    else
      f_G_join_62 (d 282 x1.toNatClampNeg) d
  else
    gd (inb (d 282 x1.toNatClampNeg) 8) <|
    if (d 284 (d 282 x1.toNatClampNeg).toNatClampNeg) = 0 then
      gd (inb (d 282 x2.toNatClampNeg) 8) <|
      if (d 284 (d 282 x2.toNatClampNeg).toNatClampNeg) = 0 then
        f_G_join_100 (d 282 x1.toNatClampNeg) (d 282 x2.toNatClampNeg) t5 (d 282 x1.toNatClampNeg) 0 d
      else
        f_G_join_95 (d 282 x1.toNatClampNeg) (d 282 x2.toNatClampNeg) t5 (d 282 x1.toNatClampNeg) d
    else
      f_G_join_95 (d 282 x1.toNatClampNeg) (d 282 x2.toNatClampNeg) t5 (d 282 x1.toNatClampNeg) d
def f_G_seenByLeader  (x1 : Int32) (x2 : Int32) (d : Dt) : Option Int32 :=
  gd (inb x1 8) <|
  if (d 283 x1.toNatClampNeg) = 1 then
    some (3 - x2)
  else
    some x2
def f_G_find_111  (x3 : Int32) (x4 : Int32) (v1 : Int32) (v2 : Int32) (v3 : Int32) (d : Dt) : Option ((Int32 × Dt) ⊕ Dt) :=
  ob1 (f_G_join v1 v2 v3 d) fun d1 =>
  some (.inl ((x4 + 1), d1))
def st_G_find_123  (x4 : Int32) (d : Dt) : Option ((Int32 × Dt) ⊕ Dt) :=
  if (d 281 0) ≤ x4 then
    ir (
      some d)
  else
    gd (inb x4 8) <|
    if (d 5 x4.toNatClampNeg) = 0 then
      some (.inl ((x4 + 1), d))
    else
      gd (inb x4 8) <|
      gd (inb (d 282 x4.toNatClampNeg) 8) <|
      gd (inb x4 8) <|
      ob1 (f_G_seenByLeader x4 (d 5 x4.toNatClampNeg) d) fun r2 =>
      gd (inb (d 282 x4.toNatClampNeg) 8) <|
      bnd (wr d 285 (d 282 x4.toNatClampNeg).toNatClampNeg ((d 285 (d 282 x4.toNatClampNeg).toNatClampNeg) ||| r2)) fun d3 =>
      some (.inl ((x4 + 1), d3))
def f_G_find_123  (x4 : Int32) (d : Dt) : Option Dt := iter fu (fun s => st_G_find_123  s.1 s.2) (x4, d)
def st_G_find_62  (x3 : Int32) (x4 : Int32) (d : Dt) : Option ((Int32 × Dt) ⊕ Dt) :=
  if (d 22 0) ≤ x4 then
    ir (
      f_G_find_123 0 d)
  else
    if ((x3 >>> (x4 &&& 31)) &&& 1) = 1 then
      gd (inb x4 12) <|
      gd (inb x4 12) <|
      gd (inb x4 12) <|
      if (d 25 x4.toNatClampNeg) = 0 then
        f_G_find_111 x3 x4 (d 23 x4.toNatClampNeg) (d 24 x4.toNatClampNeg) 1 d
      else
        f_G_find_111 x3 x4 (d 23 x4.toNatClampNeg) (d 24 x4.toNatClampNeg) 0 d
    else
      some (.inl ((x4 + 1), d))
def f_G_find_62  (x3 : Int32) (x4 : Int32) (d : Dt) : Option Dt := iter fu (fun s => st_G_find_62 x3 s.1 s.2) (x4, d)
def st_G_find_11  (x3 : Int32) (x4 : Int32) (d : Dt) : Option ((Int32 × Dt) ⊕ Dt) :=
  if (d 281 0) ≤ x4 then
    ir (
      f_G_find_62 x3 0 d)
  else
    gd (inb x4 8) <|
    bnd (wr d 282 x4.toNatClampNeg x4) fun d4 =>
    gd (inb x4 8) <|
    bnd (wr d4 283 x4.toNatClampNeg 0) fun d5 =>
    gd (inb x4 8) <|
    bnd (wr d5 284 x4.toNatClampNeg 0) fun d6 =>
    gd (inb x4 8) <|
    bnd (wr d6 285 x4.toNatClampNeg 0) fun d7 =>
    some (.inl ((x4 + 1), d7))
def f_G_find_11  (x3 : Int32) (x4 : Int32) (d : Dt) : Option Dt := iter fu (fun s => st_G_find_11 x3 s.1 s.2) (x4, d)
def f_G_find  (x3 : Int32) (d : Dt) : Option Dt :=
  bnd (wr d 281 0 (d 3 0)) fun d8 =>
  f_G_find_11 x3 0 d8
def f_G_isBroken  (x1 : Int32) (d : Dt) : Option Int32 :=
  gd (inb x1 8) <|
  gd (inb (d 282 x1.toNatClampNeg) 8) <|
  if (d 284 (d 282 x1.toNatClampNeg).toNatClampNeg) = 0 then
    gd (inb x1 8) <|
    gd (inb (d 282 x1.toNatClampNeg) 8) <|
    if (d 285 (d 282 x1.toNatClampNeg).toNatClampNeg) = 3 then
      some 1
    else
      some 0
  else
    some 1
def f_G_verdictOn  (x1 : Int32) (d : Dt) : Option Int32 :=
  ob1 (f_G_isBroken x1 d) fun r1 =>
  if r1 = 0 then
    gd (inb x1 8) <|
    gd (inb (d 282 x1.toNatClampNeg) 8) <|
    if (d 285 (d 282 x1.toNatClampNeg).toNatClampNeg) = 0 then
      some 117
    else
      ob1 (f_G_seenByLeader x1 (d 285 (d 282 x1.toNatClampNeg).toNatClampNeg) d) fun r2 =>
      if r2 = 1 then
        some 103
      else
        some 105
  else
    some 109
def f_L_addSentence  (x1 : Int32) (x2 : Int32) (d : Dt) : Option Dt :=
  gd (inb x1 8) <|
  if 8 ≤ (d 6 x1.toNatClampNeg) then
    some d
  else
    gd (inb x1 8) <|
    gd (inb x1 8) <|
    gd (inb (d 6 x1.toNatClampNeg) 8) <|
    bnd (wr d (8 + x1.toNatClampNeg) (d 6 x1.toNatClampNeg).toNatClampNeg x2) fun d1 =>
    gd (inb x1 8) <|
    gd (inb x1 8) <|
    bnd (wr d1 6 x1.toNatClampNeg ((d1 6 x1.toNatClampNeg) + 1)) fun d2 =>
    some d2
def f_S_closeHearing_87  (x1 : Int32)  (d : Dt) : Option Dt :=
  ob1 (f_B_remove x1 d) fun d1 =>
  some d1
def f_S_closeHearing_61  (x1 : Int32) (x2 : Int32)  (d : Dt) : Option Dt :=
  if x2 = 109 then
    gd (inb x1 10) <|
    bnd (wr d 2 5 ((d 2 5) + ((d 20 x1.toNatClampNeg) / 2))) fun d2 =>
    f_S_closeHearing_87 x1 d2
  else
    f_S_closeHearing_87 x1 d
def f_S_closeHearing_30  (x1 : Int32) (x2 : Int32)  (d : Dt) : Option Dt :=
  if x2 = 103 then
    gd (inb x1 10) <|
    gd (inb x1 10) <|
    ob1 (f_L_addSentence (d 18 x1.toNatClampNeg) (d 21 x1.toNatClampNeg) d) fun d3 =>
    f_S_closeHearing_61 x1 x2 d3
  else
    f_S_closeHearing_61 x1 x2 d
def f_S_closeHearing  (x1 : Int32) (x2 : Int32) (d : Dt) : Option Dt :=
  ob1 (f_JS_indexOf1 11 x2 d) fun r4 =>
  if r4 < 0 then
    f_S_closeHearing_30 x1 x2 d
  else
    if 4 ≤ r4 then
      f_S_closeHearing_30 x1 x2 d
    else
      gd (inb r4 4) <|
      gd (inb r4 4) <|
      bnd (wr d 26 r4.toNatClampNeg ((d 26 r4.toNatClampNeg) + 1)) fun d5 =>
      f_S_closeHearing_30 x1 x2 d5
def f_C_hear  (x1 : Int32) (d : Dt) : Option Dt :=
  ob1 (f_G_find (-1) d) fun d1 =>
  gd (inb x1 10) <|
  ob1 (f_G_verdictOn (d1 18 x1.toNatClampNeg) d1) fun r2 =>
  ob1 (f_S_closeHearing x1 r2 d1) fun d3 =>
  some d3
def f_C_letPass_69  (x1 : Int32) (x2 : Int32) (x3 : Int32)  (d : Dt) : Option ((Int32 × Int32 × Dt) ⊕ (Int32 × Dt)) :=
  ob1 (f_S_letLapse d) fun d1 =>
  ob2 (f_L_liveOneDay d1) fun r2 d3 =>
  bnd (wr d3 2 8 ((d1 2 8) + r2)) fun d4 =>
  some (.inl (x2, (x3 + 1), d4))
def st_C_letPass_4  (x1 : Int32) (x2 : Int32) (x3 : Int32) (d : Dt) : Option ((Int32 × Int32 × Dt) ⊕ (Int32 × Dt)) :=
  if x1 ≤ x3 then
    ir (
      some (x2, d))
  else
    ob1 (f_P_make (d 2 0) d) fun d5 =>
    bnd (wr d5 2 0 ((d5 2 0) + 1)) fun d6 =>
    if (d6 277 0) ≤ 0 then
      f_C_letPass_69 x1 x2 x3 d6
    else
      ob1 (f_C_hear (d6 278 0) d6) fun d7 =>
      f_C_letPass_69 x1 (x2 + 1) x3 d7
def f_C_letPass_4  (x1 : Int32) (x2 : Int32) (x3 : Int32) (d : Dt) : Option (Int32 × Dt) := iter fu (fun s => st_C_letPass_4 x1 s.1 s.2.1 s.2.2) (x2, x3, d)
def f_C_letPass  (x1 : Int32) (d : Dt) : Option (Int32 × Dt) :=
  f_C_letPass_4 x1 0 0 d
def f_C_carryOut_182 (x1 : Int32)  (v1 : Int32) (v2 : Int32) (d : Dt) : Option (Int32 × Dt) :=
  ob2 (f_L_setAdmission v1 v2 d) fun r1 d2 =>
  some (1, d2)
def f_C_carryOut (x1 : Int32) (x3 : Int32) (d : Dt) : Option (Int32 × Dt) :=
  ob1 (f_C_isPossible x1 x3 d) fun r3 =>
  if r3 = 0 then
    some (0, d)
  else
    gd (inb x1 8) <|
    if (smS x1.toNatClampNeg) = 1 then
      ob2 (f_L_add d) fun r4 d5 =>
      some (1, d5)
    else
    if (smS x1.toNatClampNeg) = 2 then
      ob2 (f_S_takeBrief (d 289 0) (d 289 1) (d 289 2) (d 289 3) d) fun r6 d7 =>
      some (1, d7)
    else
    if (smS x1.toNatClampNeg) = 3 then
      ob1 (f_B_positionOf (d 289 0) d) fun r8 =>
      ob2 (f_S_giveBack r8 d) fun r9 d10 =>
      some (1, d10)
    else
    if (smS x1.toNatClampNeg) = 4 then
      ob2 (f_T_add (d 289 0) (d 289 1) x3 d) fun r11 d12 =>
      some (1, d12)
    else
    if (smS x1.toNatClampNeg) = 5 then
      ob2 (f_T_remove (d 289 0) d) fun r13 d14 =>
      some (1, d14)
    else
    if (smS x1.toNatClampNeg) = 6 then
      if x3 = 0 then
        f_C_carryOut_182 x1 (d 289 0) 2 d
      else
        f_C_carryOut_182 x1 (d 289 0) 1 d
    else
    if (smS x1.toNatClampNeg) = 7 then
      ob2 (f_L_endSentence (d 289 0) d) fun r15 d16 =>
      some (1, d16)
    else
      ob2 (f_C_letPass (d 289 0) d) fun r17 d18 =>
      some (1, d18)
def f_I_skipSemicolon   (d : Dt) : Option Dt :=
  bnd (wr d 287 2 ((d 287 2) + 1)) fun d1 =>
  some d1
def f_I_rewind   (d : Dt) : Option Dt :=
  bnd (wr d 287 2 0) fun d1 =>
  some d1
def st_C_carryOutAll_9  (x1 : Int32) (x2 : Int32) (d : Dt) : Option ((Int32 × Dt) ⊕ (Int32 × Dt)) :=
  if x1 ≤ x2 then
    ir (
      some ((-1), d))
  else
    ob2 (f_I_readCommand d) fun r1 d2 =>
    if r1 = 0 then
      ir (
        some (x2, d2))
    else
      gd (inb (d2 287 3) 8) <|
      ob2 (f_C_carryOut (d2 287 3) (d2 287 6) d2) fun r3 d4 =>
      if r3 = 0 then
        ir (
          some (x2, d4))
      else
        ob1 (f_I_skipSemicolon d4) fun d5 =>
        some (.inl ((x2 + 1), d5))
def f_C_carryOutAll_9  (x1 : Int32) (x2 : Int32) (d : Dt) : Option (Int32 × Dt) := iter fu (fun s => st_C_carryOutAll_9 x1 s.1 s.2) (x2, d)
def f_C_carryOutAll  (x1 : Int32) (d : Dt) : Option (Int32 × Dt) :=
  ob1 (f_I_rewind d) fun d6 =>
  f_C_carryOutAll_9 x1 0 d6
def f_C_checkServing  (x1 : Int32) (d : Dt) : Option (Unit ⊕ Nat) :=
  ocU (f_C_checkLantern x1 d) (
    ob1 (f_L_serves x1 d) fun r2 =>
    if r2 = 0 then
      some (.inr 3)
    else
      some (.inl ())) (fun et0 => some (.inr et0))
def f_C_checkStatement  (x1 : Int32) (d : Dt) : Option (Unit ⊕ Nat) :=
  ob1 (f_T_has x1 d) fun r1 =>
  if r1 = 0 then
    some (.inr 1)
  else
    some (.inl ())
def f_C_checkedBrief  (x1 : Int32) (d : Dt) : Option (Int32 ⊕ Nat) :=
  ob1 (f_B_positionOf x1 d) fun r1 =>
  if r1 = (-1) then
    some (.inr 3)
  else
    some (.inl r1)
def f_C_courtCoins   (d : Dt) : Option Int32 :=
  some ((d 2 4) - (d 2 5))
def f_C_day   (d : Dt) : Option Int32 :=
  some (d 2 0)
def f_C_daysLeft  (x1 : Int32) (d : Dt) : Option (Int32 ⊕ Nat) :=
  ocU (f_C_checkServing x1 d) (
    gd (inb x1 8) <|
    some (.inl (d (8 + x1.toNatClampNeg) 0))) (fun et0 => some (.inr et0))
def st_L_daysToServe_4  (x1 : Int32) (x2 : Int32) (x3 : Int32) (d : Dt) : Option ((Int32 × Int32) ⊕ Int32) :=
  gd (inb x1 8) <|
  if (d 6 x1.toNatClampNeg) ≤ x3 then
    ir (
      some x2)
  else
    gd (inb x1 8) <|
    gd (inb x3 8) <|
    some (.inl ((x2 + (d (8 + x1.toNatClampNeg) x3.toNatClampNeg)), (x3 + 1)))
def f_L_daysToServe_4  (x1 : Int32) (x2 : Int32) (x3 : Int32) (d : Dt) : Option Int32 := iter fu (fun s => st_L_daysToServe_4 x1 s.1 s.2 d) (x2, x3)
def f_L_daysToServe  (x1 : Int32) (d : Dt) : Option Int32 :=
  f_L_daysToServe_4 x1 0 0 d
def f_C_daysUntilFree  (x1 : Int32) (d : Dt) : Option (Int32 ⊕ Nat) :=
  ocU (f_C_checkLantern x1 d) (
    ob1 (f_L_daysToServe x1 d) fun r2 =>
    some (.inl r2)) (fun et0 => some (.inr et0))
def f_R_keepsAdmissions  (x1 : Int32) (x2 : Int32) (d : Dt) : Option Int32 :=
  if (((d 286 0) &&& x1) &&& (x2 ^^^ (-1))) = 0 then
    if (((d 286 1) &&& x1) &&& x2) = 0 then
      some 1
    else
      some 0
  else
    some 0
def f_T_isTrue_29  (x1 : Int32) (v0 : Int32) (d : Dt) : Option Int32 :=
  gd (inb x1 12) <|
  if v0 = (d 25 x1.toNatClampNeg) then
    some 1
  else
    some 0
def f_T_isTrue  (x1 : Int32) (x2 : Int32) (d : Dt) : Option Int32 :=
  gd (inb x1 12) <|
  gd (inb x1 12) <|
  bnd (((x2 >>> ((d 23 x1.toNatClampNeg) &&& 31)) ^^^ (x2 >>> ((d 24 x1.toNatClampNeg) &&& 31))) &&& 1) fun t1 =>
  if t1 = 0 then
    f_T_isTrue_29 x1 1 d
  else
    f_T_isTrue_29 x1 0 d
def st_T_countFalse_5  (x1 : Int32) (x2 : Int32) (x3 : Int32) (x4 : Int32) (d : Dt) : Option ((Int32 × Int32) ⊕ Int32) :=
  if (d 22 0) ≤ x4 then
    ir (
      some x3)
  else
    gd (inb x4 12) <|
    if ((x1 >>> ((d 23 x4.toNatClampNeg) &&& 31)) &&& 1) = 1 then
      ob1 (f_T_isTrue x4 x2 d) fun r1 =>
      if r1 = 0 then
        some (.inl ((x3 + 1), (x4 + 1)))
      else
        some (.inl (x3, (x4 + 1)))
    else
      some (.inl (x3, (x4 + 1)))
def f_T_countFalse_5  (x1 : Int32) (x2 : Int32) (x3 : Int32) (x4 : Int32) (d : Dt) : Option Int32 := iter fu (fun s => st_T_countFalse_5 x1 x2 s.1 s.2 d) (x3, x4)
def f_T_countFalse  (x1 : Int32) (x2 : Int32) (d : Dt) : Option Int32 :=
  f_T_countFalse_5 x1 x2 0 0 d
def st_L_admitting_4  (x1 : Int32) (x2 : Int32) (x3 : Int32) (d : Dt) : Option ((Int32 × Int32) ⊕ Int32) :=
  if (d 3 0) ≤ x3 then
    ir (
      some x2)
  else
    gd (inb x3 8) <|
    if (d 5 x3.toNatClampNeg) = x1 then
      some (.inl ((x2 ||| (1 <<< (x3 &&& 31))), (x3 + 1)))
    else
      some (.inl (x2, (x3 + 1)))
def f_L_admitting_4  (x1 : Int32) (x2 : Int32) (x3 : Int32) (d : Dt) : Option Int32 := iter fu (fun s => st_L_admitting_4 x1 s.1 s.2 d) (x2, x3)
def f_L_admitting  (x1 : Int32) (d : Dt) : Option Int32 :=
  f_L_admitting_4 x1 0 0 d
def f_R_readAdmissions   (d : Dt) : Option Dt :=
  ob1 (f_L_admitting 1 d) fun r1 =>
  bnd (wr d 286 0 r1) fun d2 =>
  ob1 (f_L_admitting 2 d2) fun r3 =>
  bnd (wr d2 286 1 r3) fun d4 =>
  some d4
def st_T_connectedWith_15  (x3 : Int32) (x2 : Int32) (x4 : Int32) (d : Dt) : Option ((Int32 × Int32) ⊕ ((Int32 × Int32) ⊕ Int32)) :=
  if (d 22 0) ≤ x4 then
    ir (
      some (.inl (x2, (x3 + 1))))
  else
    gd (inb x4 12) <|
    gd (inb x4 12) <|
    bnd ((1 <<< ((d 23 x4.toNatClampNeg) &&& 31)) ||| (1 <<< ((d 24 x4.toNatClampNeg) &&& 31))) fun t1 =>
    if (x2 &&& t1) = 0 then
      some (.inl (x2, (x4 + 1)))
    else
      some (.inl ((x2 ||| t1), (x4 + 1)))
def f_T_connectedWith_15  (x3 : Int32) (x2 : Int32) (x4 : Int32) (d : Dt) : Option ((Int32 × Int32) ⊕ Int32) := iter fu (fun s => st_T_connectedWith_15 x3 s.1 s.2 d) (x2, x4)
def st_T_connectedWith_6  (x2 : Int32) (x3 : Int32) (d : Dt) : Option ((Int32 × Int32) ⊕ Int32) :=
  if 8 ≤ x3 then
    ir (
      some x2)
  else
    f_T_connectedWith_15 x3 x2 0 d
def f_T_connectedWith_6  (x2 : Int32) (x3 : Int32) (d : Dt) : Option Int32 := iter fu (fun s => st_T_connectedWith_6  s.1 s.2 d) (x2, x3)
def f_T_connectedWith  (x1 : Int32) (d : Dt) : Option Int32 :=
  f_T_connectedWith_6 (1 <<< (x1 &&& 31)) 0 d
def st_R_verdictOn_21  (x1 : Int32) (x4 : Int32) (x5 : Int32) (x6 : Int32) (x7 : Int32) (d : Dt) : Option ((Int32 × Int32 × Int32) ⊕ (Int32 × Dt)) :=
  if (1 <<< ((d 3 0) &&& 31)) ≤ x7 then
    ir (
      if x5 = 0 then
        if x6 = 0 then
          some (109, d)
        else
          some (105, d)
      else
        if x6 = 0 then
          some (103, d)
        else
          some (117, d))
  else
    ob1 (f_R_keepsAdmissions x4 x7 d) fun r1 =>
    if r1 = 0 then
      some (.inl (x5, x6, (x7 + 1)))
    else
      ob1 (f_T_countFalse x4 x7 d) fun r2 =>
      if r2 = 0 then
        if ((x7 >>> (x1 &&& 31)) &&& 1) = 1 then
          some (.inl (1, x6, (x7 + 1)))
        else
          some (.inl (x5, 1, (x7 + 1)))
      else
        some (.inl (x5, x6, (x7 + 1)))
def f_R_verdictOn_21  (x1 : Int32) (x4 : Int32) (x5 : Int32) (x6 : Int32) (x7 : Int32) (d : Dt) : Option (Int32 × Dt) := iter fu (fun s => st_R_verdictOn_21 x1 x4 s.1 s.2.1 s.2.2 d) (x5, x6, x7)
def f_R_verdictOn  (x1 : Int32) (d : Dt) : Option (Int32 × Dt) :=
  ob1 (f_R_readAdmissions d) fun d3 =>
  ob1 (f_T_connectedWith x1 d3) fun r4 =>
  f_R_verdictOn_21 x1 r4 0 0 0 d3
def st_C_doVerdictsAgree_24  (x1 : Int32) (d : Dt) : Option ((Int32 × Dt) ⊕ (Int32 × Dt)) :=
  if (d 3 0) ≤ x1 then
    ir (
      some (1, d))
  else
    ob1 (f_G_verdictOn x1 d) fun r1 =>
    ob2 (f_R_verdictOn x1 d) fun r2 d3 =>
    if r1 = r2 then
      some (.inl ((x1 + 1), d3))
    else
      ir (
        some (0, d3))
def f_C_doVerdictsAgree_24  (x1 : Int32) (d : Dt) : Option (Int32 × Dt) := iter fu (fun s => st_C_doVerdictsAgree_24  s.1 s.2) (x1, d)
def f_C_doVerdictsAgree   (d : Dt) : Option (Int32 × Dt) :=
  ob1 (f_G_find (-1) d) fun d4 =>
  f_C_doVerdictsAgree_24 0 d4
def f_C_dropStatement  (x1 : Int32) (d : Dt) : Option ((Int32 × Dt) ⊕ (Nat × Dt)) :=
  ocU (f_C_checkStatement x1 d) (
    ob1 (f_C_remember d) fun d2 =>
    ob2 (f_T_remove x1 d2) fun r3 d4 =>
    some (.inl (r3, d4))) (fun et0 => some (.inr (et0, d)))
def f_C_errorPosition   (d : Dt) : Option (Int32 ⊕ Nat) :=
  if (d 0 12) = (-1) then
    some (.inr 3)
  else
    some (.inl (d 0 12))
def st_G_waysToExplain_4  (x1 : Int32) (x2 : Int32) (d : Dt) : Option ((Int32 × Int32) ⊕ Int32) :=
  if (d 281 0) ≤ x2 then
    ir (
      some x1)
  else
    ob1 (f_G_isBroken x2 d) fun r1 =>
    if r1 = 0 then
      gd (inb x2 8) <|
      if (d 282 x2.toNatClampNeg) = x2 then
        gd (inb x2 8) <|
        if (d 285 x2.toNatClampNeg) = 0 then
          some (.inl ((x1 * 2), (x2 + 1)))
        else
          some (.inl (x1, (x2 + 1)))
      else
        some (.inl (x1, (x2 + 1)))
    else
      ir (
        some 0)
def f_G_waysToExplain_4  (x1 : Int32) (x2 : Int32) (d : Dt) : Option Int32 := iter fu (fun s => st_G_waysToExplain_4  s.1 s.2 d) (x1, x2)
def f_G_waysToExplain   (d : Dt) : Option Int32 :=
  f_G_waysToExplain_4 1 0 d
def f_C_explanations   (d : Dt) : Option (Int32 × Dt) :=
  ob1 (f_G_find (-1) d) fun d1 =>
  ob1 (f_G_waysToExplain d1) fun r2 =>
  some (r2, d1)
def st_R_countPossible_10  (x3 : Int32) (x4 : Int32) (d : Dt) : Option ((Int32 × Int32) ⊕ (Int32 × Dt)) :=
  if (1 <<< ((d 3 0) &&& 31)) ≤ x4 then
    ir (
      some (x3, d))
  else
    ob1 (f_R_keepsAdmissions (-1) x4 d) fun r1 =>
    if r1 = 0 then
      some (.inl (x3, (x4 + 1)))
    else
      ob1 (f_T_countFalse (-1) x4 d) fun r2 =>
      if r2 = 0 then
        some (.inl ((x3 + 1), (x4 + 1)))
      else
        some (.inl (x3, (x4 + 1)))
def f_R_countPossible_10  (x3 : Int32) (x4 : Int32) (d : Dt) : Option (Int32 × Dt) := iter fu (fun s => st_R_countPossible_10  s.1 s.2 d) (x3, x4)
def f_R_countPossible   (d : Dt) : Option (Int32 × Dt) :=
  ob1 (f_R_readAdmissions d) fun d3 =>
  f_R_countPossible_10 0 0 d3
def f_C_explanationsByTrial   (d : Dt) : Option (Int32 × Dt) :=
  ob2 (f_R_countPossible d) fun r1 d2 =>
  some (r1, d2)
def f_C_failedCommand   (d : Dt) : Option (Int32 ⊕ Nat) :=
  if (d 0 13) = (-1) then
    some (.inr 3)
  else
    some (.inl (d 0 13))
def f_C_fee  (x1 : Int32) (d : Dt) : Option (Int32 ⊕ Nat) :=
  ocR (f_C_checkedBrief x1 d) (fun r1 =>
    gd (inb r1 10) <|
    some (.inl (d 20 r1.toNatClampNeg))) (fun et1 => some (.inr et1))
def f_I_isFull   (d : Dt) : Option Int32 :=
  if (d 287 1) < 60 then
    some 0
  else
    some 1
def f_I_append  (x1 : Int32) (d : Dt) : Option (Int32 × Dt) :=
  gd (inb (d 287 1) 60) <|
  gd (nar .char x1) <|
  bnd (wr d 288 (d 287 1).toNatClampNeg x1) fun d1 =>
  bnd (wr d1 287 1 ((d1 287 1) + 1)) fun d2 =>
  some ((d2 287 1), d2)
def f_C_feed  (x1 : Int32) (d : Dt) : Option ((Int32 × Dt) ⊕ (Nat × Dt)) :=
  ob1 (f_I_isFull d) fun r1 =>
  if r1 = 0 then
    ob2 (f_I_append x1 d) fun r2 d3 =>
    some (.inl (r2, d3))
  else
    some (.inr (0, d))
def f_C_file  (x1 : Int32) (x2 : Int32) (x3 : Int32) (x4 : Int32) (d : Dt) : Option ((Int32 × Dt) ⊕ (Nat × Dt)) :=
  ocU (f_C_checkLantern x1 d) (
    ob1 (f_B_isInRange x2 x3 x4 d) fun r2 =>
    if r2 = 0 then
      some (.inr (2, d))
    else
      ob1 (f_B_isFull d) fun r3 =>
      if r3 = 0 then
        ob1 (f_C_remember d) fun d4 =>
        ob2 (f_S_takeBrief x1 x2 x3 x4 d4) fun r5 d6 =>
        some (.inl (r5, d6))
      else
        some (.inr (0, d))) (fun et0 => some (.inr (et0, d)))
def f_C_firstOf  (x1 : Int32) (d : Dt) : Option (Int32 ⊕ Nat) :=
  ocU (f_C_checkStatement x1 d) (
    gd (inb x1 12) <|
    some (.inl (d 23 x1.toNatClampNeg))) (fun et0 => some (.inr et0))
def st_G_countGroups_4  (x1 : Int32) (x2 : Int32) (d : Dt) : Option ((Int32 × Int32) ⊕ Int32) :=
  if (d 281 0) ≤ x2 then
    ir (
      some x1)
  else
    gd (inb x2 8) <|
    if (d 282 x2.toNatClampNeg) = x2 then
      some (.inl ((x1 + 1), (x2 + 1)))
    else
      some (.inl (x1, (x2 + 1)))
def f_G_countGroups_4  (x1 : Int32) (x2 : Int32) (d : Dt) : Option Int32 := iter fu (fun s => st_G_countGroups_4  s.1 s.2 d) (x1, x2)
def f_G_countGroups   (d : Dt) : Option Int32 :=
  f_G_countGroups_4 0 0 d
def f_C_groupCount   (d : Dt) : Option (Int32 × Dt) :=
  ob1 (f_G_find (-1) d) fun d1 =>
  ob1 (f_G_countGroups d1) fun r2 =>
  some (r2, d1)
def st_S_allHearings_4  (x1 : Int32) (x2 : Int32) (d : Dt) : Option ((Int32 × Int32) ⊕ Int32) :=
  if 4 ≤ x2 then
    ir (
      some x1)
  else
    gd (inb x2 4) <|
    some (.inl ((x1 + (d 26 x2.toNatClampNeg)), (x2 + 1)))
def f_S_allHearings_4  (x1 : Int32) (x2 : Int32) (d : Dt) : Option Int32 := iter fu (fun s => st_S_allHearings_4  s.1 s.2 d) (x1, x2)
def f_S_allHearings   (d : Dt) : Option Int32 :=
  f_S_allHearings_4 0 0 d
def f_C_hearingCount_24    (d : Dt) : Option (Int32 ⊕ Nat) :=
  some (.inr 2)
def f_C_hearingCount  (x1 : Int32) (d : Dt) : Option (Int32 ⊕ Nat) :=
  ob1 (f_JS_indexOf1 17 x1 d) fun r1 =>
  if r1 < 0 then
    f_C_hearingCount_24 d
  else
    if r1 < 4 then
      gd (inb r1 4) <|
      some (.inl (d 26 r1.toNatClampNeg))
    else
      f_C_hearingCount_24 d
def f_C_guiltyShare   (d : Dt) : Option (UInt32 ⊕ Nat) :=
  ob1 (f_S_allHearings d) fun r1 =>
  if r1 = 0 then
    some (.inr 4)
  else
    ocR (f_C_hearingCount 103 d) (fun r2 =>
      gd (vn32 (FP.fdiv (FP.i2f r2) (FP.i2f r1))) <|
      some (.inl (FP.fdiv (FP.i2f r2) (FP.i2f r1)))) (fun et2 => some (.inr et2))
def f_C_hasAdmitted  (x1 : Int32) (x2 : Int32) (d : Dt) : Option (Int32 ⊕ Nat) :=
  ocU (f_C_checkLantern x1 d) (
    ob1 (f_L_admits x1 x2 d) fun r2 =>
    gd (nar .boolean r2) <|
    some (.inl r2)) (fun et0 => some (.inr et0))
def st_P_placeOf_2  (x1 : Int32) (x2 : Int32) (d : Dt) : Option ((Int32) ⊕ Int32) :=
  if (d 277 0) ≤ x2 then
    ir (
      some (-1))
  else
    gd (inb x2 10) <|
    if (d 278 x2.toNatClampNeg) = x1 then
      ir (
        some x2)
    else
      some (.inl (x2 + 1))
def f_P_placeOf_2  (x1 : Int32) (x2 : Int32) (d : Dt) : Option Int32 := iter fu (fun s => st_P_placeOf_2 x1 s d) x2
def f_P_placeOf  (x1 : Int32) (d : Dt) : Option Int32 :=
  f_P_placeOf_2 x1 0 d
def f_C_hearingDay  (x1 : Int32) (d : Dt) : Option ((Int32 × Dt) ⊕ (Nat × Dt)) :=
  ocR (f_C_checkedBrief x1 d) (fun r1 =>
    ob1 (f_P_make (d 2 0) d) fun d3 =>
    ob1 (f_P_placeOf r1 d3) fun r4 =>
    if r4 = (-1) then
      some (.inr (3, d3))
    else
      some (.inl ((((d3 2 0) + 1) + r4), d3))) (fun et1 => some (.inr (et1, d)))
def st_B_feesOf_4  (x1 : Int32) (x2 : Int32) (x3 : Int32) (d : Dt) : Option ((Int32 × Int32) ⊕ Int32) :=
  if (d 16 0) ≤ x3 then
    ir (
      some x2)
  else
    if ((x1 >>> (x3 &&& 31)) &&& 1) = 1 then
      gd (inb x3 10) <|
      some (.inl ((x2 + (d 20 x3.toNatClampNeg)), (x3 + 1)))
    else
      some (.inl (x2, (x3 + 1)))
def f_B_feesOf_4  (x1 : Int32) (x2 : Int32) (x3 : Int32) (d : Dt) : Option Int32 := iter fu (fun s => st_B_feesOf_4 x1 s.1 s.2 d) (x2, x3)
def f_B_feesOf  (x1 : Int32) (d : Dt) : Option Int32 :=
  f_B_feesOf_4 x1 0 0 d
def f_C_planFee   (d : Dt) : Option (Int32 × Dt) :=
  ob1 (f_P_make (d 2 0) d) fun d1 =>
  ob1 (f_B_feesOf (d1 277 1) d1) fun r2 =>
  some (r2, d1)
def st_P_greatestFeeOfSets_11  (x3 : Int32) (x4 : Int32) (d : Dt) : Option ((Int32 × Int32) ⊕ (Int32 × Dt)) :=
  if (1 <<< ((d 16 0) &&& 31)) ≤ x4 then
    ir (
      some (x3, d))
  else
    ob1 (f_P_isPossible x4 d) fun r1 =>
    if r1 = 0 then
      some (.inl (x3, (x4 + 1)))
    else
      ob1 (f_B_feesOf x4 d) fun r2 =>
      some (.inl ((mxI x3 r2), (x4 + 1)))
def f_P_greatestFeeOfSets_11  (x3 : Int32) (x4 : Int32) (d : Dt) : Option (Int32 × Dt) := iter fu (fun s => st_P_greatestFeeOfSets_11  s.1 s.2 d) (x3, x4)
def f_P_greatestFeeOfSets  (x2 : Int32) (d : Dt) : Option (Int32 × Dt) :=
  ob1 (f_P_findDueSets x2 d) fun d3 =>
  f_P_greatestFeeOfSets_11 0 0 d3
def f_C_planFeeBySets   (d : Dt) : Option (Int32 × Dt) :=
  ob2 (f_P_greatestFeeOfSets (d 2 0) d) fun r1 d2 =>
  some (r1, d2)
def st_R_fewestFalse_13  (x3 : Int32) (x4 : Int32) (d : Dt) : Option ((Int32 × Int32) ⊕ (Int32 × Dt)) :=
  if (1 <<< ((d 3 0) &&& 31)) ≤ x4 then
    ir (
      some (x3, d))
  else
    ob1 (f_R_keepsAdmissions (-1) x4 d) fun r1 =>
    if r1 = 0 then
      some (.inl (x3, (x4 + 1)))
    else
      ob1 (f_T_countFalse (-1) x4 d) fun r2 =>
      some (.inl ((mnI x3 r2), (x4 + 1)))
def f_R_fewestFalse_13  (x3 : Int32) (x4 : Int32) (d : Dt) : Option (Int32 × Dt) := iter fu (fun s => st_R_fewestFalse_13  s.1 s.2 d) (x3, x4)
def f_R_fewestFalse   (d : Dt) : Option (Int32 × Dt) :=
  ob1 (f_R_readAdmissions d) fun d3 =>
  f_R_fewestFalse_13 (d3 22 0) 0 d3
def f_C_leastFalse   (d : Dt) : Option (Int32 × Dt) :=
  ob2 (f_R_fewestFalse d) fun r1 d2 =>
  some (r1, d2)
def st_C_leastFalseBySets_15  (x1 : Int32) (x2 : Int32) (x3 : Int32) (d : Dt) : Option ((Int32 × Int32 × Dt) ⊕ (Int32 × Dt)) :=
  if (1 <<< (x1 &&& 31)) ≤ x3 then
    ir (
      some (x2, d))
  else
    ob1 (f_JI_bitCount x3 d) fun r1 =>
    if x2 ≤ r1 then
      some (.inl (x2, (x3 + 1), d))
    else
      ob1 (f_G_find (x3 ^^^ (-1)) d) fun d2 =>
      ob1 (f_G_waysToExplain d2) fun r3 =>
      if r3 ≤ 0 then
        some (.inl (x2, (x3 + 1), d2))
      else
        some (.inl (r1, (x3 + 1), d2))
def f_C_leastFalseBySets_15  (x1 : Int32) (x2 : Int32) (x3 : Int32) (d : Dt) : Option (Int32 × Dt) := iter fu (fun s => st_C_leastFalseBySets_15 x1 s.1 s.2.1 s.2.2) (x2, x3, d)
def f_C_leastFalseBySets   (d : Dt) : Option (Int32 × Dt) :=
  f_C_leastFalseBySets_15 (d 22 0) (d 22 0) 0 d
def f_C_isConsistent   (d : Dt) : Option (Int32 × Dt) :=
  ob2 (f_C_planFee d) fun r1 d2 =>
  ob2 (f_C_planFeeBySets d2) fun r3 d4 =>
  if r1 = r3 then
    ob2 (f_C_doVerdictsAgree d4) fun r5 d6 =>
    if r5 = 0 then
      some (0, d6)
    else
      ob2 (f_C_explanations d6) fun r7 d8 =>
      ob2 (f_C_explanationsByTrial d8) fun r9 d10 =>
      if r7 = r9 then
        ob2 (f_C_leastFalse d10) fun r11 d12 =>
        ob2 (f_C_leastFalseBySets d12) fun r13 d14 =>
        if r11 = r13 then
          some (1, d14)
        else
          some (0, d14)
      else
        some (0, d10)
  else
    some (0, d4)
def f_C_isContradictory  (x1 : Int32) (d : Dt) : Option ((Int32 × Dt) ⊕ (Nat × Dt)) :=
  ocU (f_C_checkLantern x1 d) (
    ob1 (f_G_find (-1) d) fun d2 =>
    ob1 (f_G_isBroken x1 d2) fun r3 =>
    gd (nar .boolean r3) <|
    some (.inl (r3, d2))) (fun et0 => some (.inr (et0, d)))
def f_C_isInPlan  (x1 : Int32) (d : Dt) : Option ((Int32 × Dt) ⊕ (Nat × Dt)) :=
  ocR (f_C_checkedBrief x1 d) (fun r1 =>
    ob1 (f_P_make (d 2 0) d) fun d3 =>
    ob1 (f_P_placeOf r1 d3) fun r4 =>
    if r4 = (-1) then
      some (.inl (0, d3))
    else
      some (.inl (1, d3))) (fun et1 => some (.inr (et1, d)))
def f_C_isTogether  (x1 : Int32) (d : Dt) : Option (Int32 ⊕ Nat) :=
  ocU (f_C_checkStatement x1 d) (
    gd (inb x1 12) <|
    gd (nar .boolean (d 25 x1.toNatClampNeg)) <|
    some (.inl (d 25 x1.toNatClampNeg))) (fun et0 => some (.inr et0))
def f_L_comesBefore  (x1 : Int32) (x2 : Int32) (d : Dt) : Option Int32 :=
  gd (inb x1 8) <|
  gd (inb x2 8) <|
  if (d 4 x1.toNatClampNeg) = (d 4 x2.toNatClampNeg) then
    ob1 (f_L_daysToServe x1 d) fun r1 =>
    ob1 (f_L_daysToServe x2 d) fun r2 =>
    if r1 = r2 then
      if x2 ≤ x1 then
        some 0
      else
        some 1
    else
      if r1 ≤ r2 then
        some 0
      else
        some 1
  else
    gd (inb x1 8) <|
    gd (inb x2 8) <|
    if (d 4 x2.toNatClampNeg) ≤ (d 4 x1.toNatClampNeg) then
      some 0
    else
      some 1
def st_L_atRank_15  (x1 : Int32) (x2 : Int32) (x3 : Int32) (x4 : Int32) (d : Dt) : Option ((Int32 × Int32) ⊕ ((Int32) ⊕ Int32)) :=
  if (d 3 0) ≤ x4 then
    ir (
      if x3 = x1 then
        ir (
          some x2)
      else
        some (.inl (x2 + 1)))
  else
    ob1 (f_L_comesBefore x4 x2 d) fun r1 =>
    if r1 = 0 then
      some (.inl (x3, (x4 + 1)))
    else
      some (.inl ((x3 + 1), (x4 + 1)))
def f_L_atRank_15  (x1 : Int32) (x2 : Int32) (x3 : Int32) (x4 : Int32) (d : Dt) : Option ((Int32) ⊕ Int32) := iter fu (fun s => st_L_atRank_15 x1 x2 s.1 s.2 d) (x3, x4)
def st_L_atRank_2  (x1 : Int32) (x2 : Int32) (d : Dt) : Option ((Int32) ⊕ Int32) :=
  if (d 3 0) ≤ x2 then
    ir (
      some (-1))
  else
    f_L_atRank_15 x1 x2 0 0 d
def f_L_atRank_2  (x1 : Int32) (x2 : Int32) (d : Dt) : Option Int32 := iter fu (fun s => st_L_atRank_2 x1 s d) x2
def f_L_atRank  (x1 : Int32) (d : Dt) : Option Int32 :=
  f_L_atRank_2 x1 0 d
def f_C_lanternByBrightness  (x1 : Int32) (d : Dt) : Option (Int32 ⊕ Nat) :=
  ob1 (f_L_has x1 d) fun r1 =>
  if r1 = 0 then
    some (.inr 3)
  else
    ob1 (f_L_atRank x1 d) fun r2 =>
    some (.inl r2)
def f_C_lanternCount   (d : Dt) : Option Int32 :=
  some (d 3 0)
def f_C_lanternOf  (x1 : Int32) (d : Dt) : Option (Int32 ⊕ Nat) :=
  ocR (f_C_checkedBrief x1 d) (fun r1 =>
    gd (inb r1 10) <|
    some (.inl (d 18 r1.toNatClampNeg))) (fun et1 => some (.inr et1))
def f_C_lapsedCount   (d : Dt) : Option Int32 :=
  some (d 2 7)
def f_C_lastDay  (x1 : Int32) (d : Dt) : Option (Int32 ⊕ Nat) :=
  ocR (f_C_checkedBrief x1 d) (fun r1 =>
    gd (inb r1 10) <|
    some (.inl (d 19 r1.toNatClampNeg))) (fun et1 => some (.inr et1))
def f_C_makeStatement  (x1 : Int32) (x2 : Int32) (x3 : Int32) (d : Dt) : Option ((Int32 × Dt) ⊕ (Nat × Dt)) :=
  ocU (f_C_checkLantern x1 d) (
    ocU (f_C_checkLantern x2 d) (
      if x1 = x2 then
        some (.inr (2, d))
      else
        ob1 (f_T_isFull d) fun r3 =>
        if r3 = 0 then
          ob1 (f_C_remember d) fun d4 =>
          ob2 (f_T_add x1 x2 x3 d4) fun r5 d6 =>
          some (.inl (r5, d6))
        else
          some (.inr (0, d))) (fun et1 => some (.inr (et1, d)))) (fun et0 => some (.inr (et0, d)))
def st_L_brightnessSum_4  (x1 : Int32) (x2 : Int32) (d : Dt) : Option ((Int32 × Int32) ⊕ Int32) :=
  if (d 3 0) ≤ x2 then
    ir (
      some x1)
  else
    gd (inb x2 8) <|
    some (.inl ((x1 + (d 4 x2.toNatClampNeg)), (x2 + 1)))
def f_L_brightnessSum_4  (x1 : Int32) (x2 : Int32) (d : Dt) : Option Int32 := iter fu (fun s => st_L_brightnessSum_4  s.1 s.2 d) (x1, x2)
def f_L_brightnessSum   (d : Dt) : Option Int32 :=
  f_L_brightnessSum_4 0 0 d
def f_C_meanBrightness   (d : Dt) : Option (UInt64 ⊕ Nat) :=
  if (d 3 0) = 0 then
    some (.inr 4)
  else
    ob1 (f_L_brightnessSum d) fun r1 =>
    gd (vn64 (FP.ddiv (FP.i2d r1) (FP.i2d (d 3 0)))) <|
    some (.inl (FP.ddiv (FP.i2d r1) (FP.i2d (d 3 0))))
def f_C_outputChar_15    (d : Dt) : Option (Int32 ⊕ Nat) :=
  some (.inr 1)
def f_C_outputChar  (x1 : Int32) (d : Dt) : Option (Int32 ⊕ Nat) :=
  if x1 < 0 then
    f_C_outputChar_15 d
  else
    if x1 < (d 290 1) then
      gd (inb x1 128) <|
      gd (nar .char (d 291 x1.toNatClampNeg)) <|
      some (.inl (d 291 x1.toNatClampNeg))
    else
      f_C_outputChar_15 d
def f_C_paidBack   (d : Dt) : Option Int32 :=
  some (d 2 5)
def f_C_pardon  (x1 : Int32) (d : Dt) : Option ((Int32 × Dt) ⊕ (Nat × Dt)) :=
  ocU (f_C_checkServing x1 d) (
    ob1 (f_C_remember d) fun d2 =>
    ob2 (f_L_endSentence x1 d2) fun r3 d4 =>
    some (.inl (r3, d4))) (fun et0 => some (.inr (et0, d)))
def f_C_passDays  (x1 : Int32) (d : Dt) : Option ((Int32 × Dt) ⊕ (Nat × Dt)) :=
  ob1 (f_C_canPass x1 d) fun r1 =>
  if r1 = 0 then
    some (.inr (2, d))
  else
    ob1 (f_C_remember d) fun d2 =>
    ob2 (f_C_letPass x1 d2) fun r3 d4 =>
    some (.inl (r3, d4))
def f_G_areJoined  (x1 : Int32) (x2 : Int32) (d : Dt) : Option Int32 :=
  gd (inb x1 8) <|
  gd (inb x2 8) <|
  if (d 282 x1.toNatClampNeg) = (d 282 x2.toNatClampNeg) then
    some 1
  else
    some 0
def f_G_hasClash  (x1 : Int32) (d : Dt) : Option Int32 :=
  gd (inb x1 8) <|
  gd (inb (d 282 x1.toNatClampNeg) 8) <|
  gd (nar .boolean (d 284 (d 282 x1.toNatClampNeg).toNatClampNeg)) <|
  some (d 284 (d 282 x1.toNatClampNeg).toNatClampNeg)
def f_G_areOnOneSide  (x1 : Int32) (x2 : Int32) (d : Dt) : Option Int32 :=
  gd (inb x1 8) <|
  gd (inb x2 8) <|
  if (d 283 x1.toNatClampNeg) = (d 283 x2.toNatClampNeg) then
    some 1
  else
    some 0
def f_C_relation  (x1 : Int32) (x2 : Int32) (d : Dt) : Option ((Int32 × Dt) ⊕ (Nat × Dt)) :=
  ocU (f_C_checkLantern x1 d) (
    ocU (f_C_checkLantern x2 d) (
      ob1 (f_G_find (-1) d) fun d3 =>
      ob1 (f_G_areJoined x1 x2 d3) fun r4 =>
      if r4 = 0 then
        some (.inl (63, d3))
      else
        ob1 (f_G_hasClash x1 d3) fun r5 =>
        if r5 = 0 then
          ob1 (f_G_areOnOneSide x1 x2 d3) fun r6 =>
          if r6 = 0 then
            some (.inl (45, d3))
          else
            some (.inl (43, d3))
        else
          some (.inr (3, d3))) (fun et1 => some (.inr (et1, d)))) (fun et0 => some (.inr (et0, d)))
def f_C_restore   (d : Dt) : Option ((Int32 × Dt) ⊕ (Nat × Dt)) :=
  if (d 0 11) = 0 then
    some (.inr (0, d))
  else
    ob1 (f_S_copyFrom 2 52 d) fun d1 =>
    bnd (wr d1 0 10 0) fun d2 =>
    some (.inl ((d2 3 0), d2))
def f_C_retract  (x1 : Int32) (d : Dt) : Option ((Int32 × Dt) ⊕ (Nat × Dt)) :=
  ocU (f_C_checkLantern x1 d) (
    gd (inb x1 8) <|
    if (d 5 x1.toNatClampNeg) = 0 then
      some (.inr (3, d))
    else
      ob1 (f_C_remember d) fun d2 =>
      ob2 (f_L_setAdmission x1 0 d2) fun r3 d4 =>
      if r3 = 1 then
        some (.inl (1, d4))
      else
        some (.inl (0, d4))) (fun et0 => some (.inr (et0, d)))
def st_I_countCommands_6  (x1 : Int32) (d : Dt) : Option ((Int32 × Dt) ⊕ (Int32 × Dt)) :=
  if 60 < x1 then
    ir (
      some ((-1), d))
  else
    ob2 (f_I_readCommand d) fun r1 d2 =>
    if r1 = 0 then
      ir (
        some ((-1), d2))
    else
      if (d2 287 2) < (d2 287 1) then
        ob1 (f_I_skipSemicolon d2) fun d3 =>
        some (.inl ((x1 + 1), d3))
      else
        ir (
          some (x1, d2))
def f_I_countCommands_6  (x1 : Int32) (d : Dt) : Option (Int32 × Dt) := iter fu (fun s => st_I_countCommands_6  s.1 s.2) (x1, d)
def f_I_countCommands   (d : Dt) : Option (Int32 × Dt) :=
  ob1 (f_I_rewind d) fun d4 =>
  f_I_countCommands_6 1 d4
def f_I_empty   (d : Dt) : Option Dt :=
  bnd (wr d 287 1 0) fun d1 =>
  some d1
def f_C_remember_0_27_33   (v1 : Int32) (d : Dt) : Option Dt :=
  bnd (wr d 0 9 v1) fun d1 =>
  bnd (wr d1 0 10 (mnI ((d1 0 10) + 1) 8)) fun d2 =>
  some d2
def f_C_remember_0_27   (d : Dt) : Option Dt :=
  gd (inb (d 0 9) 8) <|
  ob1 (f_S_copyFrom (77 + 25 * (d 0 9).toNatClampNeg) 27 d) fun d3 =>
  if (d3 0 9) = 7 then
    f_C_remember_0_27_33 0 d3
  else
    f_C_remember_0_27_33 ((d3 0 9) + 1) d3
def f_C_runCommands   (d : Dt) : Option ((Int32 × Dt) ⊕ (Nat × Dt)) :=
  ob2 (f_I_countCommands d) fun r1 d2 =>
  if r1 = (-1) then
    bnd (wr d2 0 12 (d2 287 2)) fun d10 =>
    ob1 (f_I_empty d10) fun d11 =>
    some (.inr (2, d11))
  else
    ob1 (f_S_copyFrom 27 2 d2) fun d3 =>
    ob2 (f_C_carryOutAll r1 d3) fun r4 d5 =>
    ob1 (f_I_empty d5) fun d6 =>
    if r4 = (-1) then
      ob1 (f_C_remember_0_27 d6) fun d7 =>
      some (.inl (r1, d7))
    else
      bnd (wr d6 0 13 r4) fun d8 =>
      ob1 (f_S_copyFrom 2 27 d8) fun d9 =>
      some (.inr (5, d9))
def f_C_save   (d : Dt) : Option (Int32 × Dt) :=
  ob1 (f_S_copyFrom 52 2 d) fun d1 =>
  bnd (wr d1 0 11 1) fun d2 =>
  some ((d2 3 0), d2)
def f_C_secondOf  (x1 : Int32) (d : Dt) : Option (Int32 ⊕ Nat) :=
  ocU (f_C_checkStatement x1 d) (
    gd (inb x1 12) <|
    some (.inl (d 24 x1.toNatClampNeg))) (fun et0 => some (.inr et0))
def f_C_sentenceCount  (x1 : Int32) (d : Dt) : Option (Int32 ⊕ Nat) :=
  ocU (f_C_checkLantern x1 d) (
    gd (inb x1 8) <|
    some (.inl (d 6 x1.toNatClampNeg))) (fun et0 => some (.inr et0))
def f_C_servedDays   (d : Dt) : Option Int32 :=
  some (d 2 8)
def f_C_severity  (x1 : Int32) (d : Dt) : Option (Int32 ⊕ Nat) :=
  ocR (f_C_checkedBrief x1 d) (fun r1 =>
    gd (inb r1 10) <|
    some (.inl (d 21 r1.toNatClampNeg))) (fun et1 => some (.inr et1))
def f_C_statementCount   (d : Dt) : Option Int32 :=
  some (d 22 0)
def f_C_undo_37   (v1 : Int32) (d : Dt) : Option ((Int32 × Dt) ⊕ (Nat × Dt)) :=
  bnd (wr d 0 9 v1) fun d1 =>
  bnd (wr d1 0 10 ((d1 0 10) - 1)) fun d2 =>
  gd (inb (d2 0 9) 8) <|
  ob1 (f_S_copyFrom 2 (77 + 25 * (d2 0 9).toNatClampNeg) d2) fun d3 =>
  some (.inl ((d3 0 10), d3))
def f_C_undo   (d : Dt) : Option ((Int32 × Dt) ⊕ (Nat × Dt)) :=
  if (d 0 10) = 0 then
    some (.inr (0, d))
  else
    if (d 0 9) = 0 then
      f_C_undo_37 7 d
    else
      f_C_undo_37 ((d 0 9) - 1) d
def f_C_undoCount   (d : Dt) : Option Int32 :=
  some (d 0 10)
def f_C_verdict  (x1 : Int32) (d : Dt) : Option ((Int32 × Dt) ⊕ (Nat × Dt)) :=
  ocU (f_C_checkLantern x1 d) (
    ob1 (f_G_find (-1) d) fun d2 =>
    ob1 (f_G_verdictOn x1 d2) fun r3 =>
    gd (nar .char r3) <|
    some (.inl (r3, d2))) (fun et0 => some (.inr (et0, d)))
def f_C_verdictByExplanations  (x1 : Int32) (d : Dt) : Option ((Int32 × Dt) ⊕ (Nat × Dt)) :=
  ocU (f_C_checkLantern x1 d) (
    ob2 (f_R_verdictOn x1 d) fun r2 d3 =>
    gd (nar .char r2) <|
    some (.inl (r2, d3))) (fun et0 => some (.inr (et0, d)))
def f_C_withdraw  (x1 : Int32) (d : Dt) : Option ((Int32 × Dt) ⊕ (Nat × Dt)) :=
  ocR (f_C_checkedBrief x1 d) (fun r1 =>
    ob1 (f_C_remember d) fun d3 =>
    ob2 (f_S_giveBack r1 d3) fun r4 d5 =>
    some (.inl (r4, d5))) (fun et1 => some (.inr (et1, d)))
def f_O_put  (x1 : Int32) (d : Dt) : Option Dt :=
  if 128 ≤ (d 290 1) then
    some d
  else
    gd (inb (d 290 1) 128) <|
    gd (nar .char x1) <|
    bnd (wr d 291 (d 290 1).toNatClampNeg x1) fun d1 =>
    bnd (wr d1 290 1 ((d1 290 1) + 1)) fun d2 =>
    some d2
def f_O_putNumber_18  (x1 : Int32) (x2 : Int32)  (d : Dt) : Option ((Int32 × Dt) ⊕ Dt) :=
  gd (decide (¬ x2 = 0)) <|
  ob1 (f_O_put (((48 + ((x1 / x2) - (x1 / x2) / 10 * 10)).toUInt32 % 65536).toInt32) d) fun d1 =>
  some (.inl ((x2 / 10), d1))
def st_O_putNumber_3  (x1 : Int32) (x2 : Int32) (d : Dt) : Option ((Int32 × Dt) ⊕ Dt) :=
  if x2 < 1 then
    ir (
      some d)
  else
    if x2 ≤ x1 then
      f_O_putNumber_18 x1 x2 d
    else
      if x2 = 1 then
        f_O_putNumber_18 x1 x2 d
      else
        some (.inl ((x2 / 10), d))
def f_O_putNumber_3  (x1 : Int32) (x2 : Int32) (d : Dt) : Option Dt := iter fu (fun s => st_O_putNumber_3 x1 s.1 s.2) (x2, d)
def f_O_putNumber  (x1 : Int32) (d : Dt) : Option Dt :=
  f_O_putNumber_3 x1 1000000000 d
def f_O_empty   (d : Dt) : Option Dt :=
  bnd (wr d 290 1 0) fun d1 =>
  some d1
def st_C_writeLantern_99  (x1 : Int32) (x2 : Int32) (d : Dt) : Option ((Int32 × Dt) ⊕ ((Int32 × Dt) ⊕ (Nat × Dt))) :=
  gd (inb x1 8) <|
  if (d 6 x1.toNatClampNeg) ≤ x2 then
    ir (
      some (.inl ((d 290 1), d)))
  else
    ob1 (f_O_put 47 d) fun d1 =>
    gd (inb x1 8) <|
    gd (inb x2 8) <|
    ob1 (f_O_putNumber (d1 (8 + x1.toNatClampNeg) x2.toNatClampNeg) d1) fun d2 =>
    some (.inl ((x2 + 1), d2))
def f_C_writeLantern_99  (x1 : Int32) (x2 : Int32) (d : Dt) : Option ((Int32 × Dt) ⊕ (Nat × Dt)) := iter fu (fun s => st_C_writeLantern_99 x1 s.1 s.2) (x2, d)
def f_C_writeLantern_94  (x1 : Int32) (v1 : Int32) (d : Dt) : Option ((Int32 × Dt) ⊕ (Nat × Dt)) :=
  ob1 (f_O_put v1 d) fun d3 =>
  f_C_writeLantern_99 x1 0 d3
def st_C_writeLantern_22  (x1 : Int32) (x2 : Int32) (d : Dt) : Option ((Int32 × Dt) ⊕ ((Int32 × Dt) ⊕ (Nat × Dt))) :=
  gd (inb x1 8) <|
  if (d 4 x1.toNatClampNeg) ≤ x2 then
    ir (
      gd (inb x1 8) <|
      if (d 5 x1.toNatClampNeg) = 0 then
        f_C_writeLantern_99 x1 0 d
      else
        ob1 (f_L_admits x1 1 d) fun r4 =>
        if r4 = 0 then
          f_C_writeLantern_94 x1 105 d
        else
          f_C_writeLantern_94 x1 103 d)
  else
    ob1 (f_O_put 42 d) fun d5 =>
    some (.inl ((x2 + 1), d5))
def f_C_writeLantern_22  (x1 : Int32) (x2 : Int32) (d : Dt) : Option ((Int32 × Dt) ⊕ (Nat × Dt)) := iter fu (fun s => st_C_writeLantern_22 x1 s.1 s.2) (x2, d)
def f_C_writeLantern  (x1 : Int32) (d : Dt) : Option ((Int32 × Dt) ⊕ (Nat × Dt)) :=
  ocU (f_C_checkLantern x1 d) (
    ob1 (f_O_empty d) fun d7 =>
    ob1 (f_O_putNumber x1 d7) fun d8 =>
    f_C_writeLantern_22 x1 0 d8) (fun et5 => some (.inr (et5, d)))
def f_C_writePlan_54  (x1 : Int32)  (d : Dt) : Option ((Int32 × Dt) ⊕ (Int32 × Dt)) :=
  gd (inb x1 10) <|
  gd (inb (d 278 x1.toNatClampNeg) 10) <|
  ob1 (f_O_putNumber (d 17 (d 278 x1.toNatClampNeg).toNatClampNeg) d) fun d1 =>
  some (.inl ((x1 + 1), d1))
def st_C_writePlan_30  (x1 : Int32) (d : Dt) : Option ((Int32 × Dt) ⊕ (Int32 × Dt)) :=
  if (d 277 0) ≤ x1 then
    ir (
      some ((d 290 1), d))
  else
    if x1 ≤ 0 then
      f_C_writePlan_54 x1 d
    else
      ob1 (f_O_put 32 d) fun d2 =>
      f_C_writePlan_54 x1 d2
def f_C_writePlan_30  (x1 : Int32) (d : Dt) : Option (Int32 × Dt) := iter fu (fun s => st_C_writePlan_30  s.1 s.2) (x1, d)
def f_C_writePlan   (d : Dt) : Option (Int32 × Dt) :=
  ob1 (f_P_make (d 2 0) d) fun d3 =>
  ob1 (f_O_empty d3) fun d4 =>
  f_C_writePlan_30 0 d4
def f_W_addLantern   (d : Dt) : Option (Int32 × Dt) :=
  ocW (f_C_addLantern d) (fun r1 d2 =>
    bnd (wr d2 300 0 r1) fun d4 =>
    some (0, d4)) (fun et2 dt4 => if et2 = 0 then
    some (1, dt4)
  else none)
def f_W_admit  (x1 : Int32) (x2 : Int32) (d : Dt) : Option (Int32 × Dt) :=
  ocW (f_C_admit x1 x2 d) (fun r1 d2 =>
    if r1 = 0 then
      bnd (wr d2 300 0 0) fun d4 =>
      some (0, d4)
    else
      bnd (wr d2 300 0 1) fun d5 =>
      some (0, d5)) (fun et2 dt5 => if et2 = 1 then
    some (1, dt5)
  else if et2 = 0 then
    some (2, dt5)
  else none)
def f_W_briefAt  (x1 : Int32) (d : Dt) : Option (Int32 × Dt) :=
  ocR (f_C_briefAt x1 d) (fun r1 =>
    bnd (wr d 300 0 r1) fun d3 =>
    some (0, d3)) (fun et1 => if et1 = 3 then
    some (1, d)
  else none)
def f_W_brightness  (x1 : Int32) (d : Dt) : Option (Int32 × Dt) :=
  ocR (f_C_brightness x1 d) (fun r1 =>
    bnd (wr d 300 0 r1) fun d3 =>
    some (0, d3)) (fun et1 => if et1 = 1 then
    some (1, d)
  else none)
def f_W_daysLeft  (x1 : Int32) (d : Dt) : Option (Int32 × Dt) :=
  ocR (f_C_daysLeft x1 d) (fun r1 =>
    bnd (wr d 300 0 r1) fun d3 =>
    some (0, d3)) (fun et1 => if et1 = 1 then
    some (1, d)
  else if et1 = 3 then
    some (2, d)
  else none)
def f_W_daysUntilFree  (x1 : Int32) (d : Dt) : Option (Int32 × Dt) :=
  ocR (f_C_daysUntilFree x1 d) (fun r1 =>
    bnd (wr d 300 0 r1) fun d3 =>
    some (0, d3)) (fun et1 => if et1 = 1 then
    some (1, d)
  else none)
def f_W_dropStatement  (x1 : Int32) (d : Dt) : Option (Int32 × Dt) :=
  ocW (f_C_dropStatement x1 d) (fun r1 d2 =>
    bnd (wr d2 300 0 r1) fun d4 =>
    some (0, d4)) (fun et2 dt4 => if et2 = 1 then
    some (1, dt4)
  else none)
def f_W_errorPosition   (d : Dt) : Option (Int32 × Dt) :=
  ocR (f_C_errorPosition d) (fun r1 =>
    bnd (wr d 300 0 r1) fun d3 =>
    some (0, d3)) (fun et1 => if et1 = 3 then
    some (1, d)
  else none)
def f_W_failedCommand   (d : Dt) : Option (Int32 × Dt) :=
  ocR (f_C_failedCommand d) (fun r1 =>
    bnd (wr d 300 0 r1) fun d3 =>
    some (0, d3)) (fun et1 => if et1 = 3 then
    some (1, d)
  else none)
def f_W_fee  (x1 : Int32) (d : Dt) : Option (Int32 × Dt) :=
  ocR (f_C_fee x1 d) (fun r1 =>
    bnd (wr d 300 0 r1) fun d3 =>
    some (0, d3)) (fun et1 => if et1 = 3 then
    some (1, d)
  else none)
def f_W_feed  (x1 : Int32) (d : Dt) : Option (Int32 × Dt) :=
  ocW (f_C_feed x1 d) (fun r1 d2 =>
    bnd (wr d2 300 0 r1) fun d4 =>
    some (0, d4)) (fun et2 dt4 => if et2 = 0 then
    some (1, dt4)
  else none)
def f_W_file  (x1 : Int32) (x2 : Int32) (x3 : Int32) (x4 : Int32) (d : Dt) : Option (Int32 × Dt) :=
  ocW (f_C_file x1 x2 x3 x4 d) (fun r1 d2 =>
    bnd (wr d2 300 0 r1) fun d4 =>
    some (0, d4)) (fun et2 dt4 => if et2 = 1 then
    some (1, dt4)
  else if et2 = 2 then
    some (2, dt4)
  else if et2 = 0 then
    some (3, dt4)
  else none)
def f_W_firstOf  (x1 : Int32) (d : Dt) : Option (Int32 × Dt) :=
  ocR (f_C_firstOf x1 d) (fun r1 =>
    bnd (wr d 300 0 r1) fun d3 =>
    some (0, d3)) (fun et1 => if et1 = 1 then
    some (1, d)
  else none)
def f_W_guiltyShare   (d : Dt) : Option (Int32 × Dt) :=
  ocRF (f_C_guiltyShare d) (fun r1 =>
    gd (vn64 (FP.f2d r1)) <|
    bnd (wrd d 301 (FP.f2d r1)) fun d3 =>
    some (0, d3)) (fun et1 => if et1 = 4 then
    some (1, d)
  else none)
def f_W_hasAdmitted  (x1 : Int32) (x2 : Int32) (d : Dt) : Option (Int32 × Dt) :=
  ocR (f_C_hasAdmitted x1 x2 d) (fun r1 =>
    if r1 = 0 then
      bnd (wr d 300 0 0) fun d3 =>
      some (0, d3)
    else
      bnd (wr d 300 0 1) fun d4 =>
      some (0, d4)) (fun et1 => if et1 = 1 then
    some (1, d)
  else none)
def f_W_hearingCount  (x1 : Int32) (d : Dt) : Option (Int32 × Dt) :=
  ocR (f_C_hearingCount x1 d) (fun r1 =>
    bnd (wr d 300 0 r1) fun d3 =>
    some (0, d3)) (fun et1 => if et1 = 2 then
    some (1, d)
  else none)
def f_W_hearingDay  (x1 : Int32) (d : Dt) : Option (Int32 × Dt) :=
  ocW (f_C_hearingDay x1 d) (fun r1 d2 =>
    bnd (wr d2 300 0 r1) fun d4 =>
    some (0, d4)) (fun et2 dt4 => if et2 = 3 then
    some (1, dt4)
  else none)
def f_W_isContradictory  (x1 : Int32) (d : Dt) : Option (Int32 × Dt) :=
  ocW (f_C_isContradictory x1 d) (fun r1 d2 =>
    if r1 = 0 then
      bnd (wr d2 300 0 0) fun d4 =>
      some (0, d4)
    else
      bnd (wr d2 300 0 1) fun d5 =>
      some (0, d5)) (fun et2 dt5 => if et2 = 1 then
    some (1, dt5)
  else none)
def f_W_isInPlan  (x1 : Int32) (d : Dt) : Option (Int32 × Dt) :=
  ocW (f_C_isInPlan x1 d) (fun r1 d2 =>
    if r1 = 0 then
      bnd (wr d2 300 0 0) fun d4 =>
      some (0, d4)
    else
      bnd (wr d2 300 0 1) fun d5 =>
      some (0, d5)) (fun et2 dt5 => if et2 = 3 then
    some (1, dt5)
  else none)
def f_W_isTogether  (x1 : Int32) (d : Dt) : Option (Int32 × Dt) :=
  ocR (f_C_isTogether x1 d) (fun r1 =>
    if r1 = 0 then
      bnd (wr d 300 0 0) fun d3 =>
      some (0, d3)
    else
      bnd (wr d 300 0 1) fun d4 =>
      some (0, d4)) (fun et1 => if et1 = 1 then
    some (1, d)
  else none)
def f_W_lanternByBrightness  (x1 : Int32) (d : Dt) : Option (Int32 × Dt) :=
  ocR (f_C_lanternByBrightness x1 d) (fun r1 =>
    bnd (wr d 300 0 r1) fun d3 =>
    some (0, d3)) (fun et1 => if et1 = 3 then
    some (1, d)
  else none)
def f_W_lanternOf  (x1 : Int32) (d : Dt) : Option (Int32 × Dt) :=
  ocR (f_C_lanternOf x1 d) (fun r1 =>
    bnd (wr d 300 0 r1) fun d3 =>
    some (0, d3)) (fun et1 => if et1 = 3 then
    some (1, d)
  else none)
def f_W_lastDay  (x1 : Int32) (d : Dt) : Option (Int32 × Dt) :=
  ocR (f_C_lastDay x1 d) (fun r1 =>
    bnd (wr d 300 0 r1) fun d3 =>
    some (0, d3)) (fun et1 => if et1 = 3 then
    some (1, d)
  else none)
def f_W_makeStatement  (x1 : Int32) (x2 : Int32) (x3 : Int32) (d : Dt) : Option (Int32 × Dt) :=
  ocW (f_C_makeStatement x1 x2 x3 d) (fun r1 d2 =>
    bnd (wr d2 300 0 r1) fun d4 =>
    some (0, d4)) (fun et2 dt4 => if et2 = 1 then
    some (1, dt4)
  else if et2 = 2 then
    some (2, dt4)
  else if et2 = 0 then
    some (3, dt4)
  else none)
def f_W_meanBrightness   (d : Dt) : Option (Int32 × Dt) :=
  ocRD (f_C_meanBrightness d) (fun r1 =>
    bnd (wrd d 301 r1) fun d3 =>
    some (0, d3)) (fun et1 => if et1 = 4 then
    some (1, d)
  else none)
def f_W_outputChar  (x1 : Int32) (d : Dt) : Option (Int32 × Dt) :=
  ocR (f_C_outputChar x1 d) (fun r1 =>
    bnd (wr d 300 0 r1) fun d3 =>
    some (0, d3)) (fun et1 => if et1 = 1 then
    some (1, d)
  else none)
def f_W_pardon  (x1 : Int32) (d : Dt) : Option (Int32 × Dt) :=
  ocW (f_C_pardon x1 d) (fun r1 d2 =>
    bnd (wr d2 300 0 r1) fun d4 =>
    some (0, d4)) (fun et2 dt4 => if et2 = 1 then
    some (1, dt4)
  else if et2 = 3 then
    some (2, dt4)
  else none)
def f_W_passDays  (x1 : Int32) (d : Dt) : Option (Int32 × Dt) :=
  ocW (f_C_passDays x1 d) (fun r1 d2 =>
    bnd (wr d2 300 0 r1) fun d4 =>
    some (0, d4)) (fun et2 dt4 => if et2 = 2 then
    some (1, dt4)
  else none)
def f_W_relation  (x1 : Int32) (x2 : Int32) (d : Dt) : Option (Int32 × Dt) :=
  ocW (f_C_relation x1 x2 d) (fun r1 d2 =>
    bnd (wr d2 300 0 r1) fun d4 =>
    some (0, d4)) (fun et2 dt4 => if et2 = 1 then
    some (1, dt4)
  else if et2 = 3 then
    some (2, dt4)
  else none)
def f_W_restore   (d : Dt) : Option (Int32 × Dt) :=
  ocW (f_C_restore d) (fun r1 d2 =>
    bnd (wr d2 300 0 r1) fun d4 =>
    some (0, d4)) (fun et2 dt4 => if et2 = 0 then
    some (1, dt4)
  else none)
def f_W_retract  (x1 : Int32) (d : Dt) : Option (Int32 × Dt) :=
  ocW (f_C_retract x1 d) (fun r1 d2 =>
    if r1 = 0 then
      bnd (wr d2 300 0 0) fun d4 =>
      some (0, d4)
    else
      bnd (wr d2 300 0 1) fun d5 =>
      some (0, d5)) (fun et2 dt5 => if et2 = 1 then
    some (1, dt5)
  else if et2 = 3 then
    some (2, dt5)
  else none)
def f_W_runCommands   (d : Dt) : Option (Int32 × Dt) :=
  ocW (f_C_runCommands d) (fun r1 d2 =>
    bnd (wr d2 300 0 r1) fun d4 =>
    some (0, d4)) (fun et2 dt4 => if et2 = 2 then
    some (1, dt4)
  else if et2 = 5 then
    some (2, dt4)
  else none)
def f_W_secondOf  (x1 : Int32) (d : Dt) : Option (Int32 × Dt) :=
  ocR (f_C_secondOf x1 d) (fun r1 =>
    bnd (wr d 300 0 r1) fun d3 =>
    some (0, d3)) (fun et1 => if et1 = 1 then
    some (1, d)
  else none)
def f_W_sentenceCount  (x1 : Int32) (d : Dt) : Option (Int32 × Dt) :=
  ocR (f_C_sentenceCount x1 d) (fun r1 =>
    bnd (wr d 300 0 r1) fun d3 =>
    some (0, d3)) (fun et1 => if et1 = 1 then
    some (1, d)
  else none)
def f_W_severity  (x1 : Int32) (d : Dt) : Option (Int32 × Dt) :=
  ocR (f_C_severity x1 d) (fun r1 =>
    bnd (wr d 300 0 r1) fun d3 =>
    some (0, d3)) (fun et1 => if et1 = 3 then
    some (1, d)
  else none)
def f_W_undo   (d : Dt) : Option (Int32 × Dt) :=
  ocW (f_C_undo d) (fun r1 d2 =>
    bnd (wr d2 300 0 r1) fun d4 =>
    some (0, d4)) (fun et2 dt4 => if et2 = 0 then
    some (1, dt4)
  else none)
def f_W_verdict  (x1 : Int32) (d : Dt) : Option (Int32 × Dt) :=
  ocW (f_C_verdict x1 d) (fun r1 d2 =>
    bnd (wr d2 300 0 r1) fun d4 =>
    some (0, d4)) (fun et2 dt4 => if et2 = 1 then
    some (1, dt4)
  else none)
def f_W_verdictByExplanations  (x1 : Int32) (d : Dt) : Option (Int32 × Dt) :=
  ocW (f_C_verdictByExplanations x1 d) (fun r1 d2 =>
    bnd (wr d2 300 0 r1) fun d4 =>
    some (0, d4)) (fun et2 dt4 => if et2 = 1 then
    some (1, dt4)
  else none)
def f_W_withdraw  (x1 : Int32) (d : Dt) : Option (Int32 × Dt) :=
  ocW (f_C_withdraw x1 d) (fun r1 d2 =>
    bnd (wr d2 300 0 r1) fun d4 =>
    some (0, d4)) (fun et2 dt4 => if et2 = 3 then
    some (1, dt4)
  else none)
def f_W_writeLantern  (x1 : Int32) (d : Dt) : Option (Int32 × Dt) :=
  ocW (f_C_writeLantern x1 d) (fun r1 d2 =>
    bnd (wr d2 300 0 r1) fun d4 =>
    some (0, d4)) (fun et2 dt4 => if et2 = 1 then
    some (1, dt4)
  else none)
