/-! 09: the pure function of the law -/
def f_W_law_296 (L : Nat) (xs : Nat → Int32) (x5 : Int32)  (d : Dt) : Option ((Int32 × Dt) ⊕ (Int32 × Dt)) :=
  ob2 (f_W_addLantern d) fun r1 d2 =>
  ob2 (f_M_addLantern d2) fun r3 d4 =>
  ob1 (f_M_thrown d4) fun r5 =>
  if r5 = r1 then
    if r1 = 0 then
      if (d4 300 0) = r3 then
        some (.inl ((x5 + 5), d4))
      else
        ir (
          some (0, d4))
    else
      some (.inl ((x5 + 5), d4))
  else
    ir (
      some (0, d4))
def f_W_law_340 (L : Nat) (xs : Nat → Int32) (x5 : Int32)  (d : Dt) : Option ((Int32 × Dt) ⊕ (Int32 × Dt)) :=
  gd (inb (x5 + 1) L) <|
  gd (inb (x5 + 2) L) <|
  gd (inb (x5 + 3) L) <|
  gd (inb (x5 + 4) L) <|
  ob2 (f_W_file (xs (x5 + 1).toNatClampNeg) (xs (x5 + 2).toNatClampNeg) (xs (x5 + 3).toNatClampNeg) (xs (x5 + 4).toNatClampNeg) d) fun r6 d7 =>
  gd (inb (x5 + 1) L) <|
  gd (inb (x5 + 2) L) <|
  gd (inb (x5 + 3) L) <|
  gd (inb (x5 + 4) L) <|
  ob2 (f_M_file (xs (x5 + 1).toNatClampNeg) (xs (x5 + 2).toNatClampNeg) (xs (x5 + 3).toNatClampNeg) (xs (x5 + 4).toNatClampNeg) d7) fun r8 d9 =>
  ob1 (f_M_thrown d9) fun r10 =>
  if r10 = r6 then
    if r6 = 0 then
      if (d9 300 0) = r8 then
        some (.inl ((x5 + 5), d9))
      else
        ir (
          some (0, d9))
    else
      some (.inl ((x5 + 5), d9))
  else
    ir (
      some (0, d9))
def f_W_law_432 (L : Nat) (xs : Nat → Int32) (x5 : Int32)  (d : Dt) : Option ((Int32 × Dt) ⊕ (Int32 × Dt)) :=
  gd (inb (x5 + 1) L) <|
  ob2 (f_W_withdraw (xs (x5 + 1).toNatClampNeg) d) fun r11 d12 =>
  gd (inb (x5 + 1) L) <|
  ob2 (f_M_withdraw (xs (x5 + 1).toNatClampNeg) d12) fun r13 d14 =>
  ob1 (f_M_thrown d14) fun r15 =>
  if r15 = r11 then
    if r11 = 0 then
      if (d14 300 0) = r13 then
        some (.inl ((x5 + 5), d14))
      else
        ir (
          some (0, d14))
    else
      some (.inl ((x5 + 5), d14))
  else
    ir (
      some (0, d14))
def f_W_law_548 (L : Nat) (xs : Nat → Int32) (x5 : Int32) (x6 : Int32) (v1 : Int32) (v2 : Int32) (v3 : Int32) (d : Dt) : Option ((Int32 × Dt) ⊕ (Int32 × Dt)) :=
  ob2 (f_M_makeStatement v1 v2 v3 d) fun r16 d17 =>
  ob1 (f_M_thrown d17) fun r18 =>
  if r18 = x6 then
    if x6 = 0 then
      if (d17 300 0) = r16 then
        some (.inl ((x5 + 5), d17))
      else
        ir (
          some (0, d17))
    else
      some (.inl ((x5 + 5), d17))
  else
    ir (
      some (0, d17))
def f_W_law_515 (L : Nat) (xs : Nat → Int32) (x5 : Int32) (v1 : Int32) (v2 : Int32) (v3 : Int32) (d : Dt) : Option ((Int32 × Dt) ⊕ (Int32 × Dt)) :=
  ob2 (f_W_makeStatement v1 v2 v3 d) fun r19 d20 =>
  gd (inb (x5 + 1) L) <|
  gd (inb (x5 + 2) L) <|
  gd (inb (x5 + 3) L) <|
  if (xs (x5 + 3).toNatClampNeg) = 0 then
    f_W_law_548 L xs x5 r19 (xs (x5 + 1).toNatClampNeg) (xs (x5 + 2).toNatClampNeg) 0 d20
  else
    f_W_law_548 L xs x5 r19 (xs (x5 + 1).toNatClampNeg) (xs (x5 + 2).toNatClampNeg) 1 d20
def f_W_law_488 (L : Nat) (xs : Nat → Int32) (x5 : Int32)  (d : Dt) : Option ((Int32 × Dt) ⊕ (Int32 × Dt)) :=
  gd (inb (x5 + 1) L) <|
  gd (inb (x5 + 2) L) <|
  gd (inb (x5 + 3) L) <|
  if (xs (x5 + 3).toNatClampNeg) = 0 then
    f_W_law_515 L xs x5 (xs (x5 + 1).toNatClampNeg) (xs (x5 + 2).toNatClampNeg) 0 d
  else
    f_W_law_515 L xs x5 (xs (x5 + 1).toNatClampNeg) (xs (x5 + 2).toNatClampNeg) 1 d
def f_W_law_584 (L : Nat) (xs : Nat → Int32) (x5 : Int32)  (d : Dt) : Option ((Int32 × Dt) ⊕ (Int32 × Dt)) :=
  gd (inb (x5 + 1) L) <|
  ob2 (f_W_dropStatement (xs (x5 + 1).toNatClampNeg) d) fun r21 d22 =>
  gd (inb (x5 + 1) L) <|
  ob2 (f_M_dropStatement (xs (x5 + 1).toNatClampNeg) d22) fun r23 d24 =>
  ob1 (f_M_thrown d24) fun r25 =>
  if r25 = r21 then
    if r21 = 0 then
      if (d24 300 0) = r23 then
        some (.inl ((x5 + 5), d24))
      else
        ir (
          some (0, d24))
    else
      some (.inl ((x5 + 5), d24))
  else
    ir (
      some (0, d24))
def f_W_law_722 (L : Nat) (xs : Nat → Int32) (x5 : Int32) (v0 : Int32) (v1 : Int32) (d : Dt) : Option ((Int32 × Dt) ⊕ (Int32 × Dt)) :=
  if v0 = v1 then
    some (.inl ((x5 + 5), d))
  else
    ir (
      some (0, d))
def f_W_law_688 (L : Nat) (xs : Nat → Int32) (x5 : Int32) (x6 : Int32) (v1 : Int32) (v2 : Int32) (d : Dt) : Option ((Int32 × Dt) ⊕ (Int32 × Dt)) :=
  ob2 (f_M_admit v1 v2 d) fun r26 d27 =>
  ob1 (f_M_thrown d27) fun r28 =>
  if r28 = x6 then
    if x6 = 0 then
      if r26 = 0 then
        f_W_law_722 L xs x5 (d27 300 0) 0 d27
      else
        f_W_law_722 L xs x5 (d27 300 0) 1 d27
    else
      some (.inl ((x5 + 5), d27))
  else
    ir (
      some (0, d27))
def f_W_law_661 (L : Nat) (xs : Nat → Int32) (x5 : Int32) (v1 : Int32) (v2 : Int32) (d : Dt) : Option ((Int32 × Dt) ⊕ (Int32 × Dt)) :=
  ob2 (f_W_admit v1 v2 d) fun r29 d30 =>
  gd (inb (x5 + 1) L) <|
  gd (inb (x5 + 2) L) <|
  if (xs (x5 + 2).toNatClampNeg) = 0 then
    f_W_law_688 L xs x5 r29 (xs (x5 + 1).toNatClampNeg) 0 d30
  else
    f_W_law_688 L xs x5 r29 (xs (x5 + 1).toNatClampNeg) 1 d30
def f_W_law_640 (L : Nat) (xs : Nat → Int32) (x5 : Int32)  (d : Dt) : Option ((Int32 × Dt) ⊕ (Int32 × Dt)) :=
  gd (inb (x5 + 1) L) <|
  gd (inb (x5 + 2) L) <|
  if (xs (x5 + 2).toNatClampNeg) = 0 then
    f_W_law_661 L xs x5 (xs (x5 + 1).toNatClampNeg) 0 d
  else
    f_W_law_661 L xs x5 (xs (x5 + 1).toNatClampNeg) 1 d
def f_W_law_785 (L : Nat) (xs : Nat → Int32) (x5 : Int32) (v0 : Int32) (v1 : Int32) (d : Dt) : Option ((Int32 × Dt) ⊕ (Int32 × Dt)) :=
  if v0 = v1 then
    some (.inl ((x5 + 5), d))
  else
    ir (
      some (0, d))
def f_W_law_731 (L : Nat) (xs : Nat → Int32) (x5 : Int32)  (d : Dt) : Option ((Int32 × Dt) ⊕ (Int32 × Dt)) :=
  gd (inb (x5 + 1) L) <|
  ob2 (f_W_retract (xs (x5 + 1).toNatClampNeg) d) fun r31 d32 =>
  gd (inb (x5 + 1) L) <|
  ob2 (f_M_retract (xs (x5 + 1).toNatClampNeg) d32) fun r33 d34 =>
  ob1 (f_M_thrown d34) fun r35 =>
  if r35 = r31 then
    if r31 = 0 then
      if r33 = 0 then
        f_W_law_785 L xs x5 (d34 300 0) 0 d34
      else
        f_W_law_785 L xs x5 (d34 300 0) 1 d34
    else
      some (.inl ((x5 + 5), d34))
  else
    ir (
      some (0, d34))
def f_W_law_794 (L : Nat) (xs : Nat → Int32) (x5 : Int32)  (d : Dt) : Option ((Int32 × Dt) ⊕ (Int32 × Dt)) :=
  gd (inb (x5 + 1) L) <|
  ob2 (f_W_passDays (xs (x5 + 1).toNatClampNeg) d) fun r36 d37 =>
  gd (inb (x5 + 1) L) <|
  ob2 (f_M_passDays (xs (x5 + 1).toNatClampNeg) d37) fun r38 d39 =>
  ob1 (f_M_thrown d39) fun r40 =>
  if r40 = r36 then
    if r36 = 0 then
      if (d39 300 0) = r38 then
        some (.inl ((x5 + 5), d39))
      else
        ir (
          some (0, d39))
    else
      some (.inl ((x5 + 5), d39))
  else
    ir (
      some (0, d39))
def f_W_law_850 (L : Nat) (xs : Nat → Int32) (x5 : Int32)  (d : Dt) : Option ((Int32 × Dt) ⊕ (Int32 × Dt)) :=
  gd (inb (x5 + 1) L) <|
  ob2 (f_W_pardon (xs (x5 + 1).toNatClampNeg) d) fun r41 d42 =>
  gd (inb (x5 + 1) L) <|
  ob2 (f_M_pardon (xs (x5 + 1).toNatClampNeg) d42) fun r43 d44 =>
  ob1 (f_M_thrown d44) fun r45 =>
  if r45 = r41 then
    if r41 = 0 then
      if (d44 300 0) = r43 then
        some (.inl ((x5 + 5), d44))
      else
        ir (
          some (0, d44))
    else
      some (.inl ((x5 + 5), d44))
  else
    ir (
      some (0, d44))
def f_W_law_906 (L : Nat) (xs : Nat → Int32) (x5 : Int32)  (d : Dt) : Option ((Int32 × Dt) ⊕ (Int32 × Dt)) :=
  ob1 (f_C_day d) fun r46 =>
  ob2 (f_M_day d) fun r47 d48 =>
  if r46 = r47 then
    some (.inl ((x5 + 5), d48))
  else
    ir (
      some (0, d48))
def f_W_law_919 (L : Nat) (xs : Nat → Int32) (x5 : Int32)  (d : Dt) : Option ((Int32 × Dt) ⊕ (Int32 × Dt)) :=
  ob1 (f_C_lanternCount d) fun r49 =>
  ob2 (f_M_lanternCount d) fun r50 d51 =>
  if r49 = r50 then
    some (.inl ((x5 + 5), d51))
  else
    ir (
      some (0, d51))
def f_W_law_932 (L : Nat) (xs : Nat → Int32) (x5 : Int32)  (d : Dt) : Option ((Int32 × Dt) ⊕ (Int32 × Dt)) :=
  gd (inb (x5 + 1) L) <|
  ob2 (f_W_brightness (xs (x5 + 1).toNatClampNeg) d) fun r52 d53 =>
  gd (inb (x5 + 1) L) <|
  ob2 (f_M_brightness (xs (x5 + 1).toNatClampNeg) d53) fun r54 d55 =>
  ob1 (f_M_thrown d55) fun r56 =>
  if r56 = r52 then
    if r52 = 0 then
      if (d55 300 0) = r54 then
        some (.inl ((x5 + 5), d55))
      else
        ir (
          some (0, d55))
    else
      some (.inl ((x5 + 5), d55))
  else
    ir (
      some (0, d55))
def f_W_law_1070 (L : Nat) (xs : Nat → Int32) (x5 : Int32) (v0 : Int32) (v1 : Int32) (d : Dt) : Option ((Int32 × Dt) ⊕ (Int32 × Dt)) :=
  if v0 = v1 then
    some (.inl ((x5 + 5), d))
  else
    ir (
      some (0, d))
def f_W_law_1036 (L : Nat) (xs : Nat → Int32) (x5 : Int32) (x6 : Int32) (v1 : Int32) (v2 : Int32) (d : Dt) : Option ((Int32 × Dt) ⊕ (Int32 × Dt)) :=
  ob2 (f_M_hasAdmitted v1 v2 d) fun r57 d58 =>
  ob1 (f_M_thrown d58) fun r59 =>
  if r59 = x6 then
    if x6 = 0 then
      if r57 = 0 then
        f_W_law_1070 L xs x5 (d58 300 0) 0 d58
      else
        f_W_law_1070 L xs x5 (d58 300 0) 1 d58
    else
      some (.inl ((x5 + 5), d58))
  else
    ir (
      some (0, d58))
def f_W_law_1009 (L : Nat) (xs : Nat → Int32) (x5 : Int32) (v1 : Int32) (v2 : Int32) (d : Dt) : Option ((Int32 × Dt) ⊕ (Int32 × Dt)) :=
  ob2 (f_W_hasAdmitted v1 v2 d) fun r60 d61 =>
  gd (inb (x5 + 1) L) <|
  gd (inb (x5 + 2) L) <|
  if (xs (x5 + 2).toNatClampNeg) = 0 then
    f_W_law_1036 L xs x5 r60 (xs (x5 + 1).toNatClampNeg) 0 d61
  else
    f_W_law_1036 L xs x5 r60 (xs (x5 + 1).toNatClampNeg) 1 d61
def f_W_law_988 (L : Nat) (xs : Nat → Int32) (x5 : Int32)  (d : Dt) : Option ((Int32 × Dt) ⊕ (Int32 × Dt)) :=
  gd (inb (x5 + 1) L) <|
  gd (inb (x5 + 2) L) <|
  if (xs (x5 + 2).toNatClampNeg) = 0 then
    f_W_law_1009 L xs x5 (xs (x5 + 1).toNatClampNeg) 0 d
  else
    f_W_law_1009 L xs x5 (xs (x5 + 1).toNatClampNeg) 1 d
def f_W_law_1079 (L : Nat) (xs : Nat → Int32) (x5 : Int32)  (d : Dt) : Option ((Int32 × Dt) ⊕ (Int32 × Dt)) :=
  gd (inb (x5 + 1) L) <|
  ob2 (f_W_sentenceCount (xs (x5 + 1).toNatClampNeg) d) fun r62 d63 =>
  gd (inb (x5 + 1) L) <|
  ob2 (f_M_sentenceCount (xs (x5 + 1).toNatClampNeg) d63) fun r64 d65 =>
  ob1 (f_M_thrown d65) fun r66 =>
  if r66 = r62 then
    if r62 = 0 then
      if (d65 300 0) = r64 then
        some (.inl ((x5 + 5), d65))
      else
        ir (
          some (0, d65))
    else
      some (.inl ((x5 + 5), d65))
  else
    ir (
      some (0, d65))
def f_W_law_1135 (L : Nat) (xs : Nat → Int32) (x5 : Int32)  (d : Dt) : Option ((Int32 × Dt) ⊕ (Int32 × Dt)) :=
  gd (inb (x5 + 1) L) <|
  ob2 (f_W_daysLeft (xs (x5 + 1).toNatClampNeg) d) fun r67 d68 =>
  gd (inb (x5 + 1) L) <|
  ob2 (f_M_daysLeft (xs (x5 + 1).toNatClampNeg) d68) fun r69 d70 =>
  ob1 (f_M_thrown d70) fun r71 =>
  if r71 = r67 then
    if r67 = 0 then
      if (d70 300 0) = r69 then
        some (.inl ((x5 + 5), d70))
      else
        ir (
          some (0, d70))
    else
      some (.inl ((x5 + 5), d70))
  else
    ir (
      some (0, d70))
def f_W_law_1191 (L : Nat) (xs : Nat → Int32) (x5 : Int32)  (d : Dt) : Option ((Int32 × Dt) ⊕ (Int32 × Dt)) :=
  gd (inb (x5 + 1) L) <|
  ob2 (f_W_daysUntilFree (xs (x5 + 1).toNatClampNeg) d) fun r72 d73 =>
  gd (inb (x5 + 1) L) <|
  ob2 (f_M_daysUntilFree (xs (x5 + 1).toNatClampNeg) d73) fun r74 d75 =>
  ob1 (f_M_thrown d75) fun r76 =>
  if r76 = r72 then
    if r72 = 0 then
      if (d75 300 0) = r74 then
        some (.inl ((x5 + 5), d75))
      else
        ir (
          some (0, d75))
    else
      some (.inl ((x5 + 5), d75))
  else
    ir (
      some (0, d75))
def f_W_law_1247 (L : Nat) (xs : Nat → Int32) (x5 : Int32)  (d : Dt) : Option ((Int32 × Dt) ⊕ (Int32 × Dt)) :=
  ob1 (f_C_briefCount d) fun r77 =>
  ob2 (f_M_briefCount d) fun r78 d79 =>
  if r77 = r78 then
    some (.inl ((x5 + 5), d79))
  else
    ir (
      some (0, d79))
def f_W_law_1260 (L : Nat) (xs : Nat → Int32) (x5 : Int32)  (d : Dt) : Option ((Int32 × Dt) ⊕ (Int32 × Dt)) :=
  gd (inb (x5 + 1) L) <|
  ob2 (f_W_briefAt (xs (x5 + 1).toNatClampNeg) d) fun r80 d81 =>
  gd (inb (x5 + 1) L) <|
  ob2 (f_M_briefAt (xs (x5 + 1).toNatClampNeg) d81) fun r82 d83 =>
  ob1 (f_M_thrown d83) fun r84 =>
  if r84 = r80 then
    if r80 = 0 then
      if (d83 300 0) = r82 then
        some (.inl ((x5 + 5), d83))
      else
        ir (
          some (0, d83))
    else
      some (.inl ((x5 + 5), d83))
  else
    ir (
      some (0, d83))
def f_W_law_1316 (L : Nat) (xs : Nat → Int32) (x5 : Int32)  (d : Dt) : Option ((Int32 × Dt) ⊕ (Int32 × Dt)) :=
  gd (inb (x5 + 1) L) <|
  ob2 (f_W_lanternOf (xs (x5 + 1).toNatClampNeg) d) fun r85 d86 =>
  gd (inb (x5 + 1) L) <|
  ob2 (f_M_lanternOf (xs (x5 + 1).toNatClampNeg) d86) fun r87 d88 =>
  ob1 (f_M_thrown d88) fun r89 =>
  if r89 = r85 then
    if r85 = 0 then
      if (d88 300 0) = r87 then
        some (.inl ((x5 + 5), d88))
      else
        ir (
          some (0, d88))
    else
      some (.inl ((x5 + 5), d88))
  else
    ir (
      some (0, d88))
def f_W_law_1372 (L : Nat) (xs : Nat → Int32) (x5 : Int32)  (d : Dt) : Option ((Int32 × Dt) ⊕ (Int32 × Dt)) :=
  gd (inb (x5 + 1) L) <|
  ob2 (f_W_lastDay (xs (x5 + 1).toNatClampNeg) d) fun r90 d91 =>
  gd (inb (x5 + 1) L) <|
  ob2 (f_M_lastDay (xs (x5 + 1).toNatClampNeg) d91) fun r92 d93 =>
  ob1 (f_M_thrown d93) fun r94 =>
  if r94 = r90 then
    if r90 = 0 then
      if (d93 300 0) = r92 then
        some (.inl ((x5 + 5), d93))
      else
        ir (
          some (0, d93))
    else
      some (.inl ((x5 + 5), d93))
  else
    ir (
      some (0, d93))
def f_W_law_1428 (L : Nat) (xs : Nat → Int32) (x5 : Int32)  (d : Dt) : Option ((Int32 × Dt) ⊕ (Int32 × Dt)) :=
  gd (inb (x5 + 1) L) <|
  ob2 (f_W_fee (xs (x5 + 1).toNatClampNeg) d) fun r95 d96 =>
  gd (inb (x5 + 1) L) <|
  ob2 (f_M_fee (xs (x5 + 1).toNatClampNeg) d96) fun r97 d98 =>
  ob1 (f_M_thrown d98) fun r99 =>
  if r99 = r95 then
    if r95 = 0 then
      if (d98 300 0) = r97 then
        some (.inl ((x5 + 5), d98))
      else
        ir (
          some (0, d98))
    else
      some (.inl ((x5 + 5), d98))
  else
    ir (
      some (0, d98))
def f_W_law_1484 (L : Nat) (xs : Nat → Int32) (x5 : Int32)  (d : Dt) : Option ((Int32 × Dt) ⊕ (Int32 × Dt)) :=
  gd (inb (x5 + 1) L) <|
  ob2 (f_W_severity (xs (x5 + 1).toNatClampNeg) d) fun r100 d101 =>
  gd (inb (x5 + 1) L) <|
  ob2 (f_M_severity (xs (x5 + 1).toNatClampNeg) d101) fun r102 d103 =>
  ob1 (f_M_thrown d103) fun r104 =>
  if r104 = r100 then
    if r100 = 0 then
      if (d103 300 0) = r102 then
        some (.inl ((x5 + 5), d103))
      else
        ir (
          some (0, d103))
    else
      some (.inl ((x5 + 5), d103))
  else
    ir (
      some (0, d103))
def f_W_law_1594 (L : Nat) (xs : Nat → Int32) (x5 : Int32) (v0 : Int32) (v1 : Int32) (d : Dt) : Option ((Int32 × Dt) ⊕ (Int32 × Dt)) :=
  if v0 = v1 then
    some (.inl ((x5 + 5), d))
  else
    ir (
      some (0, d))
def f_W_law_1540 (L : Nat) (xs : Nat → Int32) (x5 : Int32)  (d : Dt) : Option ((Int32 × Dt) ⊕ (Int32 × Dt)) :=
  gd (inb (x5 + 1) L) <|
  ob2 (f_W_isInPlan (xs (x5 + 1).toNatClampNeg) d) fun r105 d106 =>
  gd (inb (x5 + 1) L) <|
  ob2 (f_M_isInPlan (xs (x5 + 1).toNatClampNeg) d106) fun r107 d108 =>
  ob1 (f_M_thrown d108) fun r109 =>
  if r109 = r105 then
    if r105 = 0 then
      if r107 = 0 then
        f_W_law_1594 L xs x5 (d108 300 0) 0 d108
      else
        f_W_law_1594 L xs x5 (d108 300 0) 1 d108
    else
      some (.inl ((x5 + 5), d108))
  else
    ir (
      some (0, d108))
def f_W_law_1603 (L : Nat) (xs : Nat → Int32) (x5 : Int32)  (d : Dt) : Option ((Int32 × Dt) ⊕ (Int32 × Dt)) :=
  gd (inb (x5 + 1) L) <|
  ob2 (f_W_hearingDay (xs (x5 + 1).toNatClampNeg) d) fun r110 d111 =>
  gd (inb (x5 + 1) L) <|
  ob2 (f_M_hearingDay (xs (x5 + 1).toNatClampNeg) d111) fun r112 d113 =>
  ob1 (f_M_thrown d113) fun r114 =>
  if r114 = r110 then
    if r110 = 0 then
      if (d113 300 0) = r112 then
        some (.inl ((x5 + 5), d113))
      else
        ir (
          some (0, d113))
    else
      some (.inl ((x5 + 5), d113))
  else
    ir (
      some (0, d113))
def f_W_law_1659 (L : Nat) (xs : Nat → Int32) (x5 : Int32)  (d : Dt) : Option ((Int32 × Dt) ⊕ (Int32 × Dt)) :=
  ob2 (f_C_planFee d) fun r115 d116 =>
  ob2 (f_M_planFee d116) fun r117 d118 =>
  if r115 = r117 then
    some (.inl ((x5 + 5), d118))
  else
    ir (
      some (0, d118))
def f_W_law_1672 (L : Nat) (xs : Nat → Int32) (x5 : Int32)  (d : Dt) : Option ((Int32 × Dt) ⊕ (Int32 × Dt)) :=
  ob2 (f_C_planFeeBySets d) fun r119 d120 =>
  ob2 (f_M_planFeeBySets d120) fun r121 d122 =>
  if r119 = r121 then
    some (.inl ((x5 + 5), d122))
  else
    ir (
      some (0, d122))
def f_W_law_1685 (L : Nat) (xs : Nat → Int32) (x5 : Int32)  (d : Dt) : Option ((Int32 × Dt) ⊕ (Int32 × Dt)) :=
  ob1 (f_C_statementCount d) fun r123 =>
  ob2 (f_M_statementCount d) fun r124 d125 =>
  if r123 = r124 then
    some (.inl ((x5 + 5), d125))
  else
    ir (
      some (0, d125))
def f_W_law_1698 (L : Nat) (xs : Nat → Int32) (x5 : Int32)  (d : Dt) : Option ((Int32 × Dt) ⊕ (Int32 × Dt)) :=
  gd (inb (x5 + 1) L) <|
  ob2 (f_W_firstOf (xs (x5 + 1).toNatClampNeg) d) fun r126 d127 =>
  gd (inb (x5 + 1) L) <|
  ob2 (f_M_firstOf (xs (x5 + 1).toNatClampNeg) d127) fun r128 d129 =>
  ob1 (f_M_thrown d129) fun r130 =>
  if r130 = r126 then
    if r126 = 0 then
      if (d129 300 0) = r128 then
        some (.inl ((x5 + 5), d129))
      else
        ir (
          some (0, d129))
    else
      some (.inl ((x5 + 5), d129))
  else
    ir (
      some (0, d129))
def f_W_law_1754 (L : Nat) (xs : Nat → Int32) (x5 : Int32)  (d : Dt) : Option ((Int32 × Dt) ⊕ (Int32 × Dt)) :=
  gd (inb (x5 + 1) L) <|
  ob2 (f_W_secondOf (xs (x5 + 1).toNatClampNeg) d) fun r131 d132 =>
  gd (inb (x5 + 1) L) <|
  ob2 (f_M_secondOf (xs (x5 + 1).toNatClampNeg) d132) fun r133 d134 =>
  ob1 (f_M_thrown d134) fun r135 =>
  if r135 = r131 then
    if r131 = 0 then
      if (d134 300 0) = r133 then
        some (.inl ((x5 + 5), d134))
      else
        ir (
          some (0, d134))
    else
      some (.inl ((x5 + 5), d134))
  else
    ir (
      some (0, d134))
def f_W_law_1864 (L : Nat) (xs : Nat → Int32) (x5 : Int32) (v0 : Int32) (v1 : Int32) (d : Dt) : Option ((Int32 × Dt) ⊕ (Int32 × Dt)) :=
  if v0 = v1 then
    some (.inl ((x5 + 5), d))
  else
    ir (
      some (0, d))
def f_W_law_1810 (L : Nat) (xs : Nat → Int32) (x5 : Int32)  (d : Dt) : Option ((Int32 × Dt) ⊕ (Int32 × Dt)) :=
  gd (inb (x5 + 1) L) <|
  ob2 (f_W_isTogether (xs (x5 + 1).toNatClampNeg) d) fun r136 d137 =>
  gd (inb (x5 + 1) L) <|
  ob2 (f_M_isTogether (xs (x5 + 1).toNatClampNeg) d137) fun r138 d139 =>
  ob1 (f_M_thrown d139) fun r140 =>
  if r140 = r136 then
    if r136 = 0 then
      if r138 = 0 then
        f_W_law_1864 L xs x5 (d139 300 0) 0 d139
      else
        f_W_law_1864 L xs x5 (d139 300 0) 1 d139
    else
      some (.inl ((x5 + 5), d139))
  else
    ir (
      some (0, d139))
def f_W_law_1873 (L : Nat) (xs : Nat → Int32) (x5 : Int32)  (d : Dt) : Option ((Int32 × Dt) ⊕ (Int32 × Dt)) :=
  ob2 (f_C_groupCount d) fun r141 d142 =>
  ob2 (f_M_groupCount d142) fun r143 d144 =>
  if r141 = r143 then
    some (.inl ((x5 + 5), d144))
  else
    ir (
      some (0, d144))
def f_W_law_1940 (L : Nat) (xs : Nat → Int32) (x5 : Int32) (v0 : Int32) (v1 : Int32) (d : Dt) : Option ((Int32 × Dt) ⊕ (Int32 × Dt)) :=
  if v0 = v1 then
    some (.inl ((x5 + 5), d))
  else
    ir (
      some (0, d))
def f_W_law_1886 (L : Nat) (xs : Nat → Int32) (x5 : Int32)  (d : Dt) : Option ((Int32 × Dt) ⊕ (Int32 × Dt)) :=
  gd (inb (x5 + 1) L) <|
  ob2 (f_W_isContradictory (xs (x5 + 1).toNatClampNeg) d) fun r145 d146 =>
  gd (inb (x5 + 1) L) <|
  ob2 (f_M_isContradictory (xs (x5 + 1).toNatClampNeg) d146) fun r147 d148 =>
  ob1 (f_M_thrown d148) fun r149 =>
  if r149 = r145 then
    if r145 = 0 then
      if r147 = 0 then
        f_W_law_1940 L xs x5 (d148 300 0) 0 d148
      else
        f_W_law_1940 L xs x5 (d148 300 0) 1 d148
    else
      some (.inl ((x5 + 5), d148))
  else
    ir (
      some (0, d148))
def f_W_law_1949 (L : Nat) (xs : Nat → Int32) (x5 : Int32)  (d : Dt) : Option ((Int32 × Dt) ⊕ (Int32 × Dt)) :=
  gd (inb (x5 + 1) L) <|
  gd (inb (x5 + 2) L) <|
  ob2 (f_W_relation (xs (x5 + 1).toNatClampNeg) (xs (x5 + 2).toNatClampNeg) d) fun r150 d151 =>
  gd (inb (x5 + 1) L) <|
  gd (inb (x5 + 2) L) <|
  ob2 (f_M_relation (xs (x5 + 1).toNatClampNeg) (xs (x5 + 2).toNatClampNeg) d151) fun r152 d153 =>
  ob1 (f_M_thrown d153) fun r154 =>
  if r154 = r150 then
    if r150 = 0 then
      if (d153 300 0) = r152 then
        some (.inl ((x5 + 5), d153))
      else
        ir (
          some (0, d153))
    else
      some (.inl ((x5 + 5), d153))
  else
    ir (
      some (0, d153))
def f_W_law_2017 (L : Nat) (xs : Nat → Int32) (x5 : Int32)  (d : Dt) : Option ((Int32 × Dt) ⊕ (Int32 × Dt)) :=
  gd (inb (x5 + 1) L) <|
  ob2 (f_W_verdict (xs (x5 + 1).toNatClampNeg) d) fun r155 d156 =>
  gd (inb (x5 + 1) L) <|
  ob2 (f_M_verdict (xs (x5 + 1).toNatClampNeg) d156) fun r157 d158 =>
  ob1 (f_M_thrown d158) fun r159 =>
  if r159 = r155 then
    if r155 = 0 then
      if (d158 300 0) = r157 then
        some (.inl ((x5 + 5), d158))
      else
        ir (
          some (0, d158))
    else
      some (.inl ((x5 + 5), d158))
  else
    ir (
      some (0, d158))
def f_W_law_2073 (L : Nat) (xs : Nat → Int32) (x5 : Int32)  (d : Dt) : Option ((Int32 × Dt) ⊕ (Int32 × Dt)) :=
  gd (inb (x5 + 1) L) <|
  ob2 (f_W_verdictByExplanations (xs (x5 + 1).toNatClampNeg) d) fun r160 d161 =>
  gd (inb (x5 + 1) L) <|
  ob2 (f_M_verdictByExplanations (xs (x5 + 1).toNatClampNeg) d161) fun r162 d163 =>
  ob1 (f_M_thrown d163) fun r164 =>
  if r164 = r160 then
    if r160 = 0 then
      if (d163 300 0) = r162 then
        some (.inl ((x5 + 5), d163))
      else
        ir (
          some (0, d163))
    else
      some (.inl ((x5 + 5), d163))
  else
    ir (
      some (0, d163))
def f_W_law_2129 (L : Nat) (xs : Nat → Int32) (x5 : Int32)  (d : Dt) : Option ((Int32 × Dt) ⊕ (Int32 × Dt)) :=
  ob2 (f_C_explanations d) fun r165 d166 =>
  ob2 (f_M_explanations d166) fun r167 d168 =>
  if r165 = r167 then
    some (.inl ((x5 + 5), d168))
  else
    ir (
      some (0, d168))
def f_W_law_2142 (L : Nat) (xs : Nat → Int32) (x5 : Int32)  (d : Dt) : Option ((Int32 × Dt) ⊕ (Int32 × Dt)) :=
  ob2 (f_C_explanationsByTrial d) fun r169 d170 =>
  ob2 (f_M_explanationsByTrial d170) fun r171 d172 =>
  if r169 = r171 then
    some (.inl ((x5 + 5), d172))
  else
    ir (
      some (0, d172))
def f_W_law_2155 (L : Nat) (xs : Nat → Int32) (x5 : Int32)  (d : Dt) : Option ((Int32 × Dt) ⊕ (Int32 × Dt)) :=
  ob2 (f_C_leastFalse d) fun r173 d174 =>
  ob2 (f_M_leastFalse d174) fun r175 d176 =>
  if r173 = r175 then
    some (.inl ((x5 + 5), d176))
  else
    ir (
      some (0, d176))
def f_W_law_2168 (L : Nat) (xs : Nat → Int32) (x5 : Int32)  (d : Dt) : Option ((Int32 × Dt) ⊕ (Int32 × Dt)) :=
  ob2 (f_C_leastFalseBySets d) fun r177 d178 =>
  ob2 (f_M_leastFalseBySets d178) fun r179 d180 =>
  if r177 = r179 then
    some (.inl ((x5 + 5), d180))
  else
    ir (
      some (0, d180))
def f_W_law_2181 (L : Nat) (xs : Nat → Int32) (x5 : Int32)  (d : Dt) : Option ((Int32 × Dt) ⊕ (Int32 × Dt)) :=
  gd (inb (x5 + 1) L) <|
  ob2 (f_W_lanternByBrightness (xs (x5 + 1).toNatClampNeg) d) fun r181 d182 =>
  gd (inb (x5 + 1) L) <|
  ob2 (f_M_lanternByBrightness (xs (x5 + 1).toNatClampNeg) d182) fun r183 d184 =>
  ob1 (f_M_thrown d184) fun r185 =>
  if r185 = r181 then
    if r181 = 0 then
      if (d184 300 0) = r183 then
        some (.inl ((x5 + 5), d184))
      else
        ir (
          some (0, d184))
    else
      some (.inl ((x5 + 5), d184))
  else
    ir (
      some (0, d184))
def f_W_law_2237 (L : Nat) (xs : Nat → Int32) (x5 : Int32)  (d : Dt) : Option ((Int32 × Dt) ⊕ (Int32 × Dt)) :=
  ob1 (f_C_courtCoins d) fun r186 =>
  ob2 (f_M_courtCoins d) fun r187 d188 =>
  if r186 = r187 then
    some (.inl ((x5 + 5), d188))
  else
    ir (
      some (0, d188))
def f_W_law_2250 (L : Nat) (xs : Nat → Int32) (x5 : Int32)  (d : Dt) : Option ((Int32 × Dt) ⊕ (Int32 × Dt)) :=
  ob1 (f_C_paidBack d) fun r189 =>
  ob2 (f_M_paidBack d) fun r190 d191 =>
  if r189 = r190 then
    some (.inl ((x5 + 5), d191))
  else
    ir (
      some (0, d191))
def f_W_law_2263 (L : Nat) (xs : Nat → Int32) (x5 : Int32)  (d : Dt) : Option ((Int32 × Dt) ⊕ (Int32 × Dt)) :=
  gd (inb (x5 + 1) L) <|
  ob2 (f_W_hearingCount (((xs (x5 + 1).toNatClampNeg).toUInt32 % 65536).toInt32) d) fun r192 d193 =>
  gd (inb (x5 + 1) L) <|
  ob2 (f_M_hearingCount (((xs (x5 + 1).toNatClampNeg).toUInt32 % 65536).toInt32) d193) fun r194 d195 =>
  ob1 (f_M_thrown d195) fun r196 =>
  if r196 = r192 then
    if r192 = 0 then
      if (d195 300 0) = r194 then
        some (.inl ((x5 + 5), d195))
      else
        ir (
          some (0, d195))
    else
      some (.inl ((x5 + 5), d195))
  else
    ir (
      some (0, d195))
def f_W_law_2321 (L : Nat) (xs : Nat → Int32) (x5 : Int32)  (d : Dt) : Option ((Int32 × Dt) ⊕ (Int32 × Dt)) :=
  ob1 (f_C_lapsedCount d) fun r197 =>
  ob2 (f_M_lapsedCount d) fun r198 d199 =>
  if r197 = r198 then
    some (.inl ((x5 + 5), d199))
  else
    ir (
      some (0, d199))
def f_W_law_2334 (L : Nat) (xs : Nat → Int32) (x5 : Int32)  (d : Dt) : Option ((Int32 × Dt) ⊕ (Int32 × Dt)) :=
  ob1 (f_C_servedDays d) fun r200 =>
  ob2 (f_M_servedDays d) fun r201 d202 =>
  if r200 = r201 then
    some (.inl ((x5 + 5), d202))
  else
    ir (
      some (0, d202))
def f_W_law_2347 (L : Nat) (xs : Nat → Int32) (x5 : Int32)  (d : Dt) : Option ((Int32 × Dt) ⊕ (Int32 × Dt)) :=
  ob2 (f_W_meanBrightness d) fun r203 d204 =>
  ob2 (f_M_meanBrightness d204) fun r205 d206 =>
  ob1 (f_M_thrown d206) fun r207 =>
  if r207 = r203 then
    if r203 = 0 then
      if (Op.cmpValue (FP.dcmp (dblW (d206 301 0) (d206 301 1)) r205) .l) = 0 then
        some (.inl ((x5 + 5), d206))
      else
        if (Op.cmpValue (FP.dcmp (dblW (d206 301 0) (d206 301 1)) (dblW (d206 301 0) (d206 301 1))) .l) = 0 then
          ir (
            some (0, d206))
        else
          if (Op.cmpValue (FP.dcmp r205 r205) .l) = 0 then
            ir (
              some (0, d206))
          else
            some (.inl ((x5 + 5), d206))
    else
      some (.inl ((x5 + 5), d206))
  else
    ir (
      some (0, d206))
def f_W_law_2412 (L : Nat) (xs : Nat → Int32) (x5 : Int32)  (d : Dt) : Option ((Int32 × Dt) ⊕ (Int32 × Dt)) :=
  ob2 (f_W_guiltyShare d) fun r208 d209 =>
  ob2 (f_M_guiltyShare d209) fun r210 d211 =>
  ob1 (f_M_thrown d211) fun r212 =>
  if r212 = r208 then
    if r208 = 0 then
      gd (vn64 (FP.f2d r210)) <|
      if (Op.cmpValue (FP.dcmp (dblW (d211 301 0) (d211 301 1)) (FP.f2d r210)) .l) = 0 then
        some (.inl ((x5 + 5), d211))
      else
        if (Op.cmpValue (FP.dcmp (dblW (d211 301 0) (d211 301 1)) (dblW (d211 301 0) (d211 301 1))) .l) = 0 then
          ir (
            some (0, d211))
        else
          if (Op.cmpValue (FP.fcmp r210 r210) .l) = 0 then
            ir (
              some (0, d211))
          else
            some (.inl ((x5 + 5), d211))
    else
      some (.inl ((x5 + 5), d211))
  else
    ir (
      some (0, d211))
def f_W_law_2478 (L : Nat) (xs : Nat → Int32) (x5 : Int32)  (d : Dt) : Option ((Int32 × Dt) ⊕ (Int32 × Dt)) :=
  ob2 (f_C_isConsistent d) fun r213 d214 =>
  ob2 (f_M_isConsistent d214) fun r215 d216 =>
  if r213 = r215 then
    some (.inl ((x5 + 5), d216))
  else
    ir (
      some (0, d216))
def f_W_law_2491 (L : Nat) (xs : Nat → Int32) (x5 : Int32)  (d : Dt) : Option ((Int32 × Dt) ⊕ (Int32 × Dt)) :=
  gd (inb (x5 + 1) L) <|
  ob2 (f_W_feed (((xs (x5 + 1).toNatClampNeg).toUInt32 % 65536).toInt32) d) fun r217 d218 =>
  gd (inb (x5 + 1) L) <|
  ob2 (f_M_feed (((xs (x5 + 1).toNatClampNeg).toUInt32 % 65536).toInt32) d218) fun r219 d220 =>
  ob1 (f_M_thrown d220) fun r221 =>
  if r221 = r217 then
    if r217 = 0 then
      if (d220 300 0) = r219 then
        some (.inl ((x5 + 5), d220))
      else
        ir (
          some (0, d220))
    else
      some (.inl ((x5 + 5), d220))
  else
    ir (
      some (0, d220))
def f_W_law_2549 (L : Nat) (xs : Nat → Int32) (x5 : Int32)  (d : Dt) : Option ((Int32 × Dt) ⊕ (Int32 × Dt)) :=
  ob2 (f_W_runCommands d) fun r222 d223 =>
  ob2 (f_M_runCommands d223) fun r224 d225 =>
  ob1 (f_M_thrown d225) fun r226 =>
  if r226 = r222 then
    if r222 = 0 then
      if (d225 300 0) = r224 then
        some (.inl ((x5 + 5), d225))
      else
        ir (
          some (0, d225))
    else
      some (.inl ((x5 + 5), d225))
  else
    ir (
      some (0, d225))
def f_W_law_2593 (L : Nat) (xs : Nat → Int32) (x5 : Int32)  (d : Dt) : Option ((Int32 × Dt) ⊕ (Int32 × Dt)) :=
  ob2 (f_W_errorPosition d) fun r227 d228 =>
  ob2 (f_M_errorPosition d228) fun r229 d230 =>
  ob1 (f_M_thrown d230) fun r231 =>
  if r231 = r227 then
    if r227 = 0 then
      if (d230 300 0) = r229 then
        some (.inl ((x5 + 5), d230))
      else
        ir (
          some (0, d230))
    else
      some (.inl ((x5 + 5), d230))
  else
    ir (
      some (0, d230))
def f_W_law_2637 (L : Nat) (xs : Nat → Int32) (x5 : Int32)  (d : Dt) : Option ((Int32 × Dt) ⊕ (Int32 × Dt)) :=
  ob2 (f_W_failedCommand d) fun r232 d233 =>
  ob2 (f_M_failedCommand d233) fun r234 d235 =>
  ob1 (f_M_thrown d235) fun r236 =>
  if r236 = r232 then
    if r232 = 0 then
      if (d235 300 0) = r234 then
        some (.inl ((x5 + 5), d235))
      else
        ir (
          some (0, d235))
    else
      some (.inl ((x5 + 5), d235))
  else
    ir (
      some (0, d235))
def f_W_law_2681 (L : Nat) (xs : Nat → Int32) (x5 : Int32)  (d : Dt) : Option ((Int32 × Dt) ⊕ (Int32 × Dt)) :=
  gd (inb (x5 + 1) L) <|
  ob2 (f_W_writeLantern (xs (x5 + 1).toNatClampNeg) d) fun r237 d238 =>
  gd (inb (x5 + 1) L) <|
  ob2 (f_M_writeLantern (xs (x5 + 1).toNatClampNeg) d238) fun r239 d240 =>
  ob1 (f_M_thrown d240) fun r241 =>
  if r241 = r237 then
    if r237 = 0 then
      if (d240 300 0) = r239 then
        some (.inl ((x5 + 5), d240))
      else
        ir (
          some (0, d240))
    else
      some (.inl ((x5 + 5), d240))
  else
    ir (
      some (0, d240))
def f_W_law_2737 (L : Nat) (xs : Nat → Int32) (x5 : Int32)  (d : Dt) : Option ((Int32 × Dt) ⊕ (Int32 × Dt)) :=
  ob2 (f_C_writePlan d) fun r242 d243 =>
  ob2 (f_M_writePlan d243) fun r244 d245 =>
  if r242 = r244 then
    some (.inl ((x5 + 5), d245))
  else
    ir (
      some (0, d245))
def f_W_law_2750 (L : Nat) (xs : Nat → Int32) (x5 : Int32)  (d : Dt) : Option ((Int32 × Dt) ⊕ (Int32 × Dt)) :=
  gd (inb (x5 + 1) L) <|
  ob2 (f_W_outputChar (xs (x5 + 1).toNatClampNeg) d) fun r246 d247 =>
  gd (inb (x5 + 1) L) <|
  ob2 (f_M_outputChar (xs (x5 + 1).toNatClampNeg) d247) fun r248 d249 =>
  ob1 (f_M_thrown d249) fun r250 =>
  if r250 = r246 then
    if r246 = 0 then
      if (d249 300 0) = r248 then
        some (.inl ((x5 + 5), d249))
      else
        ir (
          some (0, d249))
    else
      some (.inl ((x5 + 5), d249))
  else
    ir (
      some (0, d249))
def f_W_law_2806 (L : Nat) (xs : Nat → Int32) (x5 : Int32)  (d : Dt) : Option ((Int32 × Dt) ⊕ (Int32 × Dt)) :=
  ob1 (f_C_undoCount d) fun r251 =>
  ob2 (f_M_undoCount d) fun r252 d253 =>
  if r251 = r252 then
    some (.inl ((x5 + 5), d253))
  else
    ir (
      some (0, d253))
def f_W_law_2819 (L : Nat) (xs : Nat → Int32) (x5 : Int32)  (d : Dt) : Option ((Int32 × Dt) ⊕ (Int32 × Dt)) :=
  ob2 (f_W_undo d) fun r254 d255 =>
  ob2 (f_M_undo d255) fun r256 d257 =>
  ob1 (f_M_thrown d257) fun r258 =>
  if r258 = r254 then
    if r254 = 0 then
      if (d257 300 0) = r256 then
        some (.inl ((x5 + 5), d257))
      else
        ir (
          some (0, d257))
    else
      some (.inl ((x5 + 5), d257))
  else
    ir (
      some (0, d257))
def f_W_law_2863 (L : Nat) (xs : Nat → Int32) (x5 : Int32)  (d : Dt) : Option ((Int32 × Dt) ⊕ (Int32 × Dt)) :=
  ob2 (f_C_save d) fun r259 d260 =>
  ob2 (f_M_save d260) fun r261 d262 =>
  if r259 = r261 then
    some (.inl ((x5 + 5), d262))
  else
    ir (
      some (0, d262))
def f_W_law_2876 (L : Nat) (xs : Nat → Int32) (x5 : Int32)  (d : Dt) : Option ((Int32 × Dt) ⊕ (Int32 × Dt)) :=
  ob2 (f_W_restore d) fun r263 d264 =>
  ob2 (f_M_restore d264) fun r265 d266 =>
  ob1 (f_M_thrown d266) fun r267 =>
  if r267 = r263 then
    if r263 = 0 then
      if (d266 300 0) = r265 then
        some (.inl ((x5 + 5), d266))
      else
        ir (
          some (0, d266))
    else
      some (.inl ((x5 + 5), d266))
  else
    ir (
      some (0, d266))
def st_W_law_28 (L : Nat) (xs : Nat → Int32) (x5 : Int32) (d : Dt) : Option ((Int32 × Dt) ⊕ (Int32 × Dt)) :=
  if ((Int32.ofNat L) - 5) < x5 then
    ir (
      some (1, d))
  else
    gd (inb x5 L) <|
    if ((xs x5.toNatClampNeg) &&& 63) = 0 then
      f_W_law_296 L xs x5 d
    else
    if ((xs x5.toNatClampNeg) &&& 63) = 1 then
      f_W_law_340 L xs x5 d
    else
    if ((xs x5.toNatClampNeg) &&& 63) = 2 then
      f_W_law_432 L xs x5 d
    else
    if ((xs x5.toNatClampNeg) &&& 63) = 3 then
      f_W_law_488 L xs x5 d
    else
    if ((xs x5.toNatClampNeg) &&& 63) = 4 then
      f_W_law_584 L xs x5 d
    else
    if ((xs x5.toNatClampNeg) &&& 63) = 5 then
      f_W_law_640 L xs x5 d
    else
    if ((xs x5.toNatClampNeg) &&& 63) = 6 then
      f_W_law_731 L xs x5 d
    else
    if ((xs x5.toNatClampNeg) &&& 63) = 7 then
      f_W_law_794 L xs x5 d
    else
    if ((xs x5.toNatClampNeg) &&& 63) = 8 then
      f_W_law_850 L xs x5 d
    else
    if ((xs x5.toNatClampNeg) &&& 63) = 9 then
      f_W_law_906 L xs x5 d
    else
    if ((xs x5.toNatClampNeg) &&& 63) = 10 then
      f_W_law_919 L xs x5 d
    else
    if ((xs x5.toNatClampNeg) &&& 63) = 11 then
      f_W_law_932 L xs x5 d
    else
    if ((xs x5.toNatClampNeg) &&& 63) = 12 then
      f_W_law_988 L xs x5 d
    else
    if ((xs x5.toNatClampNeg) &&& 63) = 13 then
      f_W_law_1079 L xs x5 d
    else
    if ((xs x5.toNatClampNeg) &&& 63) = 14 then
      f_W_law_1135 L xs x5 d
    else
    if ((xs x5.toNatClampNeg) &&& 63) = 15 then
      f_W_law_1191 L xs x5 d
    else
    if ((xs x5.toNatClampNeg) &&& 63) = 16 then
      f_W_law_1247 L xs x5 d
    else
    if ((xs x5.toNatClampNeg) &&& 63) = 17 then
      f_W_law_1260 L xs x5 d
    else
    if ((xs x5.toNatClampNeg) &&& 63) = 18 then
      f_W_law_1316 L xs x5 d
    else
    if ((xs x5.toNatClampNeg) &&& 63) = 19 then
      f_W_law_1372 L xs x5 d
    else
    if ((xs x5.toNatClampNeg) &&& 63) = 20 then
      f_W_law_1428 L xs x5 d
    else
    if ((xs x5.toNatClampNeg) &&& 63) = 21 then
      f_W_law_1484 L xs x5 d
    else
    if ((xs x5.toNatClampNeg) &&& 63) = 22 then
      f_W_law_1540 L xs x5 d
    else
    if ((xs x5.toNatClampNeg) &&& 63) = 23 then
      f_W_law_1603 L xs x5 d
    else
    if ((xs x5.toNatClampNeg) &&& 63) = 24 then
      f_W_law_1659 L xs x5 d
    else
    if ((xs x5.toNatClampNeg) &&& 63) = 25 then
      f_W_law_1672 L xs x5 d
    else
    if ((xs x5.toNatClampNeg) &&& 63) = 26 then
      f_W_law_1685 L xs x5 d
    else
    if ((xs x5.toNatClampNeg) &&& 63) = 27 then
      f_W_law_1698 L xs x5 d
    else
    if ((xs x5.toNatClampNeg) &&& 63) = 28 then
      f_W_law_1754 L xs x5 d
    else
    if ((xs x5.toNatClampNeg) &&& 63) = 29 then
      f_W_law_1810 L xs x5 d
    else
    if ((xs x5.toNatClampNeg) &&& 63) = 30 then
      f_W_law_1873 L xs x5 d
    else
    if ((xs x5.toNatClampNeg) &&& 63) = 31 then
      f_W_law_1886 L xs x5 d
    else
    if ((xs x5.toNatClampNeg) &&& 63) = 32 then
      f_W_law_1949 L xs x5 d
    else
    if ((xs x5.toNatClampNeg) &&& 63) = 33 then
      f_W_law_2017 L xs x5 d
    else
    if ((xs x5.toNatClampNeg) &&& 63) = 34 then
      f_W_law_2073 L xs x5 d
    else
    if ((xs x5.toNatClampNeg) &&& 63) = 35 then
      f_W_law_2129 L xs x5 d
    else
    if ((xs x5.toNatClampNeg) &&& 63) = 36 then
      f_W_law_2142 L xs x5 d
    else
    if ((xs x5.toNatClampNeg) &&& 63) = 37 then
      f_W_law_2155 L xs x5 d
    else
    if ((xs x5.toNatClampNeg) &&& 63) = 38 then
      f_W_law_2168 L xs x5 d
    else
    if ((xs x5.toNatClampNeg) &&& 63) = 39 then
      f_W_law_2181 L xs x5 d
    else
    if ((xs x5.toNatClampNeg) &&& 63) = 40 then
      f_W_law_2237 L xs x5 d
    else
    if ((xs x5.toNatClampNeg) &&& 63) = 41 then
      f_W_law_2250 L xs x5 d
    else
    if ((xs x5.toNatClampNeg) &&& 63) = 42 then
      f_W_law_2263 L xs x5 d
    else
    if ((xs x5.toNatClampNeg) &&& 63) = 43 then
      f_W_law_2321 L xs x5 d
    else
    if ((xs x5.toNatClampNeg) &&& 63) = 44 then
      f_W_law_2334 L xs x5 d
    else
    if ((xs x5.toNatClampNeg) &&& 63) = 45 then
      f_W_law_2347 L xs x5 d
    else
    if ((xs x5.toNatClampNeg) &&& 63) = 46 then
      f_W_law_2412 L xs x5 d
    else
    if ((xs x5.toNatClampNeg) &&& 63) = 47 then
      f_W_law_2478 L xs x5 d
    else
    if ((xs x5.toNatClampNeg) &&& 63) = 48 then
      f_W_law_2491 L xs x5 d
    else
    if ((xs x5.toNatClampNeg) &&& 63) = 49 then
      f_W_law_2549 L xs x5 d
    else
    if ((xs x5.toNatClampNeg) &&& 63) = 50 then
      f_W_law_2593 L xs x5 d
    else
    if ((xs x5.toNatClampNeg) &&& 63) = 51 then
      f_W_law_2637 L xs x5 d
    else
    if ((xs x5.toNatClampNeg) &&& 63) = 52 then
      f_W_law_2681 L xs x5 d
    else
    if ((xs x5.toNatClampNeg) &&& 63) = 53 then
      f_W_law_2737 L xs x5 d
    else
    if ((xs x5.toNatClampNeg) &&& 63) = 54 then
      f_W_law_2750 L xs x5 d
    else
    if ((xs x5.toNatClampNeg) &&& 63) = 55 then
      f_W_law_2806 L xs x5 d
    else
    if ((xs x5.toNatClampNeg) &&& 63) = 56 then
      f_W_law_2819 L xs x5 d
    else
    if ((xs x5.toNatClampNeg) &&& 63) = 57 then
      f_W_law_2863 L xs x5 d
    else
    if ((xs x5.toNatClampNeg) &&& 63) = 58 then
      f_W_law_2876 L xs x5 d
    else
      some (.inl ((x5 + 5), d))
def f_W_law_28 (L : Nat) (xs : Nat → Int32) (x5 : Int32) (d : Dt) : Option (Int32 × Dt) := iter fu (fun s => st_W_law_28 L xs  s.1 s.2) (x5, d)
def f_W_law (L : Nat) (xs : Nat → Int32)  (d : Dt) : Option (Int32 × Dt) :=
  f_W_law_28 L xs 0 d
