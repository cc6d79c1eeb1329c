/-! 31: floating point: what a division of two ints is -/
section FPT
def fgood (f : FP.Core.Fmt) : FP.Core.Datum → Prop
  | .nan => False
  | .inf _ => True
  | .fin _ c q => c < 2 ^ f.p ∧ q ≤ f.qmax
theorem fgood_bound {f : FP.Core.Fmt} {s : Bool} {c : Nat} {q : Int} (hc : c < 2 ^ f.p) : fgood f (FP.Core.bound f s c q) := by
  unfold FP.Core.bound
  by_cases h : q ≤ f.qmax
  · rw [if_p h]; exact ⟨hc, h⟩
  · rw [if_n h]; trivial
theorem fgood_settle {f : FP.Core.Fmt} {s : Bool} {c : Nat} {q : Int} (ht : f.tails < 2 ^ f.p) : fgood f (FP.Core.settle f s c q) := by
  unfold FP.Core.settle
  by_cases h : c < 2 ^ f.p
  · rw [if_p h]; exact fgood_bound h
  · rw [if_n h]; exact fgood_bound ht
theorem fgood_ratio {f : FP.Core.Fmt} {s : Bool} {n m : Nat} {q : Int} (ht : f.tails < 2 ^ f.p) (hq : f.qmin ≤ f.qmax) : fgood f (FP.Core.roundRatio f s n m q) := by
  unfold FP.Core.roundRatio FP.Core.roundAt
  by_cases h : n = 0
  · rw [if_p h]; exact ⟨Nat.lt_of_le_of_lt (Nat.zero_le _) ht, hq⟩
  · rw [if_n h]; exact fgood_settle ht
theorem leading_1 {n : Nat} (h : n ≠ 0) : FP.Core.leading n 1 = (n.log2 : Int) := by
  have e1 : Nat.log2 1 = 0 := by decide
  unfold FP.Core.leading
  rw [e1]
  have e2 : ((n.log2 : Int) - ((0 : Nat) : Int)) = (n.log2 : Int) := by omega
  have e3 : (n.log2 : Int).toNat = n.log2 := by omega
  have e4 : (-(n.log2 : Int)).toNat = 0 := by omega
  simp only [e2, e3, e4, Nat.pow_zero, Nat.mul_one, Nat.one_mul]
  exact if_p (Nat.log2_self_le h)
theorem nearest_pos {n d : Nat} (hd : 0 < d) (h : d ≤ n) : 1 ≤ FP.Core.nearest n d := by
  have := Nat.div_pos h hd
  unfold FP.Core.nearest
  by_cases h1 : 2 * (n % d) < d
  · rw [if_p h1]; omega
  · rw [if_n h1]
    by_cases h2 : d < 2 * (n % d)
    · rw [if_p h2]; omega
    · rw [if_n h2]; omega
theorem natAbs_log {n : Nat} (h : n ≠ 0) (hn : n < 2 ^ 32) : n.log2 ≤ 31 := by
  have := (Nat.log2_lt h).mpr hn
  omega
theorem fmt32 : FP.Core.b32.tails = 8388608 ∧ FP.Core.b32.exps = 256 ∧ FP.Core.b32.qmin = -149 ∧ FP.Core.b32.qmax = 104 ∧ 2 ^ FP.Core.b32.p = 16777216 ∧ FP.Core.b32.p = 24 := ⟨by decide, by decide, by decide, by decide, by decide, rfl⟩
theorem enc32 {x : FP.Core.Datum} (hx : fgood FP.Core.b32 x) : ∃ s m, s ≤ 1 ∧ m ≤ 2139095040 ∧ FP.Core.encode FP.Core.b32 x = s * 2147483648 + m := by
  obtain ⟨f1, f2, f3, f4, f5, f6⟩ := fmt32
  cases x with
  | nan => exact hx.elim
  | inf s =>
    refine ⟨s.toNat, 2139095040, Bool.toNat_le s, Nat.le_refl _, ?_⟩
    unfold FP.Core.encode FP.Core.assemble
    dsimp only
    rw [f1, f2]
    omega
  | fin s c q =>
    have hs := Bool.toNat_le s
    obtain ⟨h1, h2⟩ := hx
    rw [f5] at h1
    rw [f4] at h2
    unfold FP.Core.encode FP.Core.assemble
    dsimp only
    rw [f1, f2, f3]
    by_cases h : c < 8388608
    · rw [if_p h]
      exact ⟨s.toNat, c, hs, by omega, by omega⟩
    · rw [if_n h]
      exact ⟨s.toNat, ((q - -149).toNat + 1) * 8388608 + (c - 8388608), hs, by omega, by omega⟩
theorem vn32_nat {n s m : Nat} (hs : s ≤ 1) (hm : m ≤ 2139095040) (hn : n = s * 2147483648 + m) : vn32 (UInt32.ofNat n) = true := by
  unfold vn32
  rw [decide_eq_true_iff, UInt32.le_iff_toNat_le, UInt32.toNat_and, UInt32.toNat_ofNat]
  show (n % 2 ^ 32) &&& (2 ^ 31 - 1) ≤ 2139095040
  rw [Nat.and_two_pow_sub_one_eq_mod]
  omega
theorem ofNat32 {n s m : Nat} (hs : s ≤ 1) (hm : m ≤ 2139095040) (hn : n = s * 2147483648 + m) : (UInt32.ofNat n).toNat = n := by
  rw [UInt32.toNat_ofNat']
  exact Nat.mod_eq_of_lt (by omega)
theorem dec32 {n s m : Nat} (hs : s ≤ 1) (hm : m ≤ 2139095040) (hn : n = s * 2147483648 + m) : (FP.Core.decode FP.Core.b32 n ≠ .nan) ∧ (m < 2139095040 → ∃ t c q, FP.Core.decode FP.Core.b32 n = .fin t c q ∧ (m ≠ 0 → c ≠ 0)) := by
  obtain ⟨f1, f2, f3, f4, f5, f6⟩ := fmt32
  unfold FP.Core.decode FP.Core.fieldE FP.Core.fieldT
  rw [f1, f2, f3]
  by_cases h : n / 8388608 % 256 = 256 - 1
  · rw [if_p h]
    have : n % 8388608 = 0 := by omega
    rw [if_p this]
    exact ⟨(by intro q; cases q), fun q => by omega⟩
  · rw [if_n h]
    by_cases h0 : n / 8388608 % 256 = 0
    · rw [if_p h0]
      exact ⟨(by intro q; cases q), fun _ => ⟨_, _, _, rfl, fun q => by omega⟩⟩
    · rw [if_n h0]
      exact ⟨(by intro q; cases q), fun _ => ⟨_, _, _, rfl, fun q => by omega⟩⟩
theorem int32 {i : Int} (hi : i.natAbs < 2 ^ 32) : ∃ s m, s ≤ 1 ∧ m < 2139095040 ∧ FP.Core.fromInt FP.Core.b32 i = s * 2147483648 + m ∧ (i ≠ 0 → m ≠ 0) := by
  obtain ⟨f1, f2, f3, f4, f5, f6⟩ := fmt32
  unfold FP.Core.fromInt FP.Core.ofInt FP.Core.round
  dsimp only
  have hs := Bool.toNat_le (decide (i < 0))
  generalize decide (i < 0) = sb at hs ⊢
  unfold FP.Core.roundRatio
  by_cases h : i.natAbs = 0
  · rw [if_p h, f3]
    refine ⟨sb.toNat, 0, hs, by decide, ?_, fun q => absurd (Int.natAbs_eq_zero.mp h) q⟩
    unfold FP.Core.encode FP.Core.assemble
    dsimp only
    rw [f1, f2, if_p (by decide)]
    omega
  · rw [if_n h]
    have hl := natAbs_log h hi
    have hlog := Nat.log2_self_le h
    have hc : ∃ c q, FP.Core.roundAt FP.Core.b32 sb i.natAbs 1 0 (FP.Core.quantum FP.Core.b32 i.natAbs 1 0) = .fin sb c q ∧ 1 ≤ c ∧ c < 16777216 ∧ -149 ≤ q ∧ q ≤ 40 := by
      unfold FP.Core.roundAt FP.Core.quantum
      rw [leading_1 h, f3, f6]
      have hq1 : -149 ≤ max (-149 : Int) ((i.natAbs.log2 : Int) + 0 - (((24 : Nat) : Int) - 1)) := by omega
      have hq2 : max (-149 : Int) ((i.natAbs.log2 : Int) + 0 - (((24 : Nat) : Int) - 1)) ≤ 31 := by omega
      have hq3 : max (-149 : Int) ((i.natAbs.log2 : Int) + 0 - (((24 : Nat) : Int) - 1)) ≤ (i.natAbs.log2 : Int) := by omega
      generalize max (-149 : Int) ((i.natAbs.log2 : Int) + 0 - (((24 : Nat) : Int) - 1)) = q at hq1 hq2 hq3 ⊢
      have hn : 1 ≤ FP.Core.nearest (FP.Core.unitsNum i.natAbs 0 q) (FP.Core.unitsDen 1 0 q) := by
        unfold FP.Core.unitsNum FP.Core.unitsDen
        refine nearest_pos (by have := Nat.two_pow_pos (q - 0).toNat; omega) ?_
        rcases Int.le_total q 0 with h0 | h0
        · rw [show (q - 0).toNat = 0 by omega]
          have := Nat.mul_le_mul (show 1 ≤ i.natAbs by omega) (Nat.two_pow_pos (0 - q).toNat)
          omega
        · rw [show (0 - q).toNat = 0 by omega]
          have : 2 ^ (q - 0).toNat ≤ 2 ^ i.natAbs.log2 := Nat.pow_le_pow_right (by decide) (by omega)
          omega
      generalize FP.Core.nearest (FP.Core.unitsNum i.natAbs 0 q) (FP.Core.unitsDen 1 0 q) = c at hn ⊢
      unfold FP.Core.settle FP.Core.bound
      rw [f4, f5, f1]
      by_cases hcp : c < 16777216
      · rw [if_p hcp, if_p (by omega)]
        exact ⟨c, q, rfl, hn, hcp, hq1, by omega⟩
      · rw [if_n hcp, if_p (by omega)]
        exact ⟨8388608, q + 1, rfl, by decide, by decide, by omega, by omega⟩
    obtain ⟨c, q, e1, e2, e3, e4, e5⟩ := hc
    rw [e1]
    unfold FP.Core.encode FP.Core.assemble
    dsimp only
    rw [f1, f2, f3]
    by_cases hT : c < 8388608
    · rw [if_p hT]
      exact ⟨sb.toNat, c, hs, by omega, by omega, fun _ => by omega⟩
    · rw [if_n hT]
      exact ⟨sb.toNat, ((q - -149).toNat + 1) * 8388608 + (c - 8388608), hs, by omega, by omega, fun _ => by omega⟩
/-- the division of two ints, the second not zero -/
theorem div32 {a b : Int} (ha : a.natAbs < 2 ^ 32) (hb : b.natAbs < 2 ^ 32) (hb0 : b ≠ 0) : ∃ s m, s ≤ 1 ∧ m ≤ 2139095040 ∧ FP.Core.div FP.Core.b32 (FP.Core.fromInt FP.Core.b32 a) (FP.Core.fromInt FP.Core.b32 b) = s * 2147483648 + m := by
  obtain ⟨s, m, h1, h2, h3, h4⟩ := int32 ha
  obtain ⟨s', m', g1, g2, g3, g4⟩ := int32 hb
  obtain ⟨t, c, q, e1, e2⟩ := (dec32 h1 (by omega) h3).2 h2
  obtain ⟨t', c', q', e3, e4⟩ := (dec32 g1 (by omega) g3).2 g2
  unfold FP.Core.div
  rw [e1, e3]
  unfold FP.Core.quotient
  dsimp only
  rw [if_n (e4 (g4 hb0))]
  obtain ⟨f1, f2, f3, f4, f5, f6⟩ := fmt32
  exact enc32 (fgood_ratio (by rw [f1, f5]; decide) (by rw [f3, f4]; decide))
theorem fmt64 : FP.Core.b64.tails = 4503599627370496 ∧ FP.Core.b64.exps = 2048 ∧ FP.Core.b64.qmin = -1074 ∧ FP.Core.b64.qmax = 971 ∧ 2 ^ FP.Core.b64.p = 9007199254740992 ∧ FP.Core.b64.p = 53 := ⟨by decide, by decide, by decide, by decide, by decide, rfl⟩
theorem enc64 {x : FP.Core.Datum} (hx : fgood FP.Core.b64 x) : ∃ s m, s ≤ 1 ∧ m ≤ 9218868437227405312 ∧ FP.Core.encode FP.Core.b64 x = s * 9223372036854775808 + m := by
  obtain ⟨f1, f2, f3, f4, f5, f6⟩ := fmt64
  cases x with
  | nan => exact hx.elim
  | inf s =>
    refine ⟨s.toNat, 9218868437227405312, Bool.toNat_le s, Nat.le_refl _, ?_⟩
    unfold FP.Core.encode FP.Core.assemble
    dsimp only
    rw [f1, f2]
    omega
  | fin s c q =>
    have hs := Bool.toNat_le s
    obtain ⟨h1, h2⟩ := hx
    rw [f5] at h1
    rw [f4] at h2
    unfold FP.Core.encode FP.Core.assemble
    dsimp only
    rw [f1, f2, f3]
    by_cases h : c < 4503599627370496
    · rw [if_p h]
      exact ⟨s.toNat, c, hs, by omega, by omega⟩
    · rw [if_n h]
      exact ⟨s.toNat, ((q - -1074).toNat + 1) * 4503599627370496 + (c - 4503599627370496), hs, by omega, by omega⟩
theorem vn64_nat {n s m : Nat} (hs : s ≤ 1) (hm : m ≤ 9218868437227405312) (hn : n = s * 9223372036854775808 + m) : vn64 (UInt64.ofNat n) = true := by
  unfold vn64
  rw [decide_eq_true_iff, UInt64.le_iff_toNat_le, UInt64.toNat_and, UInt64.toNat_ofNat]
  show (n % 2 ^ 64) &&& (2 ^ 63 - 1) ≤ 9218868437227405312
  rw [Nat.and_two_pow_sub_one_eq_mod]
  omega
theorem ofNat64 {n s m : Nat} (hs : s ≤ 1) (hm : m ≤ 9218868437227405312) (hn : n = s * 9223372036854775808 + m) : (UInt64.ofNat n).toNat = n := by
  rw [UInt64.toNat_ofNat']
  exact Nat.mod_eq_of_lt (by omega)
theorem dec64 {n s m : Nat} (hs : s ≤ 1) (hm : m ≤ 9218868437227405312) (hn : n = s * 9223372036854775808 + m) : (FP.Core.decode FP.Core.b64 n ≠ .nan) ∧ (m < 9218868437227405312 → ∃ t c q, FP.Core.decode FP.Core.b64 n = .fin t c q ∧ (m ≠ 0 → c ≠ 0)) := by
  obtain ⟨f1, f2, f3, f4, f5, f6⟩ := fmt64
  unfold FP.Core.decode FP.Core.fieldE FP.Core.fieldT
  rw [f1, f2, f3]
  by_cases h : n / 4503599627370496 % 2048 = 2048 - 1
  · rw [if_p h]
    have : n % 4503599627370496 = 0 := by omega
    rw [if_p this]
    exact ⟨(by intro q; cases q), fun q => by omega⟩
  · rw [if_n h]
    by_cases h0 : n / 4503599627370496 % 2048 = 0
    · rw [if_p h0]
      exact ⟨(by intro q; cases q), fun _ => ⟨_, _, _, rfl, fun q => by omega⟩⟩
    · rw [if_n h0]
      exact ⟨(by intro q; cases q), fun _ => ⟨_, _, _, rfl, fun q => by omega⟩⟩
theorem int64 {i : Int} (hi : i.natAbs < 2 ^ 32) : ∃ s m, s ≤ 1 ∧ m < 9218868437227405312 ∧ FP.Core.fromInt FP.Core.b64 i = s * 9223372036854775808 + m ∧ (i ≠ 0 → m ≠ 0) := by
  obtain ⟨f1, f2, f3, f4, f5, f6⟩ := fmt64
  unfold FP.Core.fromInt FP.Core.ofInt FP.Core.round
  dsimp only
  have hs := Bool.toNat_le (decide (i < 0))
  generalize decide (i < 0) = sb at hs ⊢
  unfold FP.Core.roundRatio
  by_cases h : i.natAbs = 0
  · rw [if_p h, f3]
    refine ⟨sb.toNat, 0, hs, by decide, ?_, fun q => absurd (Int.natAbs_eq_zero.mp h) q⟩
    unfold FP.Core.encode FP.Core.assemble
    dsimp only
    rw [f1, f2, if_p (by decide)]
    omega
  · rw [if_n h]
    have hl := natAbs_log h hi
    have hlog := Nat.log2_self_le h
    have hc : ∃ c q, FP.Core.roundAt FP.Core.b64 sb i.natAbs 1 0 (FP.Core.quantum FP.Core.b64 i.natAbs 1 0) = .fin sb c q ∧ 1 ≤ c ∧ c < 9007199254740992 ∧ -1074 ≤ q ∧ q ≤ 40 := by
      unfold FP.Core.roundAt FP.Core.quantum
      rw [leading_1 h, f3, f6]
      have hq1 : -1074 ≤ max (-1074 : Int) ((i.natAbs.log2 : Int) + 0 - (((53 : Nat) : Int) - 1)) := by omega
      have hq2 : max (-1074 : Int) ((i.natAbs.log2 : Int) + 0 - (((53 : Nat) : Int) - 1)) ≤ 31 := by omega
      have hq3 : max (-1074 : Int) ((i.natAbs.log2 : Int) + 0 - (((53 : Nat) : Int) - 1)) ≤ (i.natAbs.log2 : Int) := by omega
      generalize max (-1074 : Int) ((i.natAbs.log2 : Int) + 0 - (((53 : Nat) : Int) - 1)) = q at hq1 hq2 hq3 ⊢
      have hn : 1 ≤ FP.Core.nearest (FP.Core.unitsNum i.natAbs 0 q) (FP.Core.unitsDen 1 0 q) := by
        unfold FP.Core.unitsNum FP.Core.unitsDen
        refine nearest_pos (by have := Nat.two_pow_pos (q - 0).toNat; omega) ?_
        rcases Int.le_total q 0 with h0 | h0
        · rw [show (q - 0).toNat = 0 by omega]
          have := Nat.mul_le_mul (show 1 ≤ i.natAbs by omega) (Nat.two_pow_pos (0 - q).toNat)
          omega
        · rw [show (0 - q).toNat = 0 by omega]
          have : 2 ^ (q - 0).toNat ≤ 2 ^ i.natAbs.log2 := Nat.pow_le_pow_right (by decide) (by omega)
          omega
      generalize FP.Core.nearest (FP.Core.unitsNum i.natAbs 0 q) (FP.Core.unitsDen 1 0 q) = c at hn ⊢
      unfold FP.Core.settle FP.Core.bound
      rw [f4, f5, f1]
      by_cases hcp : c < 9007199254740992
      · rw [if_p hcp, if_p (by omega)]
        exact ⟨c, q, rfl, hn, hcp, hq1, by omega⟩
      · rw [if_n hcp, if_p (by omega)]
        exact ⟨4503599627370496, q + 1, rfl, by decide, by decide, by omega, by omega⟩
    obtain ⟨c, q, e1, e2, e3, e4, e5⟩ := hc
    rw [e1]
    unfold FP.Core.encode FP.Core.assemble
    dsimp only
    rw [f1, f2, f3]
    by_cases hT : c < 4503599627370496
    · rw [if_p hT]
      exact ⟨sb.toNat, c, hs, by omega, by omega, fun _ => by omega⟩
    · rw [if_n hT]
      exact ⟨sb.toNat, ((q - -1074).toNat + 1) * 4503599627370496 + (c - 4503599627370496), hs, by omega, by omega, fun _ => by omega⟩
/-- the division of two ints, the second not zero -/
theorem div64 {a b : Int} (ha : a.natAbs < 2 ^ 32) (hb : b.natAbs < 2 ^ 32) (hb0 : b ≠ 0) : ∃ s m, s ≤ 1 ∧ m ≤ 9218868437227405312 ∧ FP.Core.div FP.Core.b64 (FP.Core.fromInt FP.Core.b64 a) (FP.Core.fromInt FP.Core.b64 b) = s * 9223372036854775808 + m := by
  obtain ⟨s, m, h1, h2, h3, h4⟩ := int64 ha
  obtain ⟨s', m', g1, g2, g3, g4⟩ := int64 hb
  obtain ⟨t, c, q, e1, e2⟩ := (dec64 h1 (by omega) h3).2 h2
  obtain ⟨t', c', q', e3, e4⟩ := (dec64 g1 (by omega) g3).2 g2
  unfold FP.Core.div
  rw [e1, e3]
  unfold FP.Core.quotient
  dsimp only
  rw [if_n (e4 (g4 hb0))]
  obtain ⟨f1, f2, f3, f4, f5, f6⟩ := fmt64
  exact enc64 (fgood_ratio (by rw [f1, f5]; decide) (by rw [f3, f4]; decide))
theorem toInt_abs (x : Int32) : x.toInt.natAbs < 2 ^ 32 := by
  have h1 := Int32.le_toInt x
  have h2 := Int32.toInt_lt x
  omega
theorem ne_toInt {x : Int32} (h : x ≠ 0) : x.toInt ≠ 0 := fun q => h (Int32.toInt_inj.mp q)
theorem vn_ddiv {x y : Int32} (h : y ≠ 0) : vn64 (FP.ddiv (FP.i2d x) (FP.i2d y)) = true := by
  obtain ⟨s, m, h1, h2, h3⟩ := div64 (toInt_abs x) (toInt_abs y) (ne_toInt h)
  obtain ⟨sa, ma, a1, a2, a3, a4⟩ := int64 (toInt_abs x)
  obtain ⟨sb, mb, b1, b2, b3, b4⟩ := int64 (toInt_abs y)
  show vn64 (UInt64.ofNat (FP.Core.div FP.Core.b64 (UInt64.ofNat (FP.Core.fromInt FP.Core.b64 x.toInt)).toNat (UInt64.ofNat (FP.Core.fromInt FP.Core.b64 y.toInt)).toNat)) = true
  rw [ofNat64 a1 (by omega) a3, ofNat64 b1 (by omega) b3]
  exact vn64_nat h1 h2 h3
theorem fdiv_nat {x y : Int32} (h : y ≠ 0) : ∃ s m, s ≤ 1 ∧ m ≤ 2139095040 ∧ FP.fdiv (FP.i2f x) (FP.i2f y) = UInt32.ofNat (s * 2147483648 + m) := by
  obtain ⟨s, m, h1, h2, h3⟩ := div32 (toInt_abs x) (toInt_abs y) (ne_toInt h)
  obtain ⟨sa, ma, a1, a2, a3, a4⟩ := int32 (toInt_abs x)
  obtain ⟨sb, mb, b1, b2, b3, b4⟩ := int32 (toInt_abs y)
  refine ⟨s, m, h1, h2, ?_⟩
  show UInt32.ofNat (FP.Core.div FP.Core.b32 (UInt32.ofNat (FP.Core.fromInt FP.Core.b32 x.toInt)).toNat (UInt32.ofNat (FP.Core.fromInt FP.Core.b32 y.toInt)).toNat) = _
  rw [ofNat32 a1 (by omega) a3, ofNat32 b1 (by omega) b3, h3]
theorem vn_fdiv {x y : Int32} (h : y ≠ 0) : vn32 (FP.fdiv (FP.i2f x) (FP.i2f y)) = true := by
  obtain ⟨s, m, h1, h2, h3⟩ := fdiv_nat (x := x) h
  rw [h3]
  exact vn32_nat h1 h2 rfl
theorem order_self {x : FP.Core.Datum} (h : x ≠ .nan) : FP.Core.order x x = some .eq := by
  cases x with
  | nan => exact absurd rfl h
  | inf s => cases s <;> rfl
  | fin s c q =>
    unfold FP.Core.order
    simp
/-- a float that a division gave, as a double -/
theorem f2d_div {x y : Int32} (h : y ≠ 0) : vn64 (FP.f2d (FP.fdiv (FP.i2f x) (FP.i2f y))) = true ∧ Op.cmpValue (FP.dcmp (FP.f2d (FP.fdiv (FP.i2f x) (FP.i2f y))) (FP.f2d (FP.fdiv (FP.i2f x) (FP.i2f y)))) .l = 0 := by
  obtain ⟨s, m, h1, h2, h3⟩ := fdiv_nat (x := x) h
  have hd := (dec32 h1 h2 rfl).1
  have hN : FP.Core.fIsNaN (UInt32.ofNat (s * 2147483648 + m)) = false := by
    show decide (FP.Core.decode FP.Core.b32 (UInt32.ofNat (s * 2147483648 + m)).toNat = .nan) = false
    rw [ofNat32 h1 h2 rfl]
    exact decide_eq_false hd
  have e : FP.f2d (UInt32.ofNat (s * 2147483648 + m)) = UInt64.ofNat (FP.Core.convert FP.Core.b32 FP.Core.b64 (s * 2147483648 + m)) := by
    show (if FP.Core.fIsNaN (UInt32.ofNat (s * 2147483648 + m)) then _ else UInt64.ofNat (FP.Core.convert FP.Core.b32 FP.Core.b64 (UInt32.ofNat (s * 2147483648 + m)).toNat)) = _
    rw [hN, ofNat32 h1 h2 rfl]
    rfl
  have hg : fgood FP.Core.b64 (FP.Core.round FP.Core.b64 (FP.Core.decode FP.Core.b32 (s * 2147483648 + m))) := by
    generalize FP.Core.decode FP.Core.b32 (s * 2147483648 + m) = x at hd
    obtain ⟨f1, f2, f3, f4, f5, f6⟩ := fmt64
    cases x with
    | nan => exact absurd rfl hd
    | inf s => trivial
    | fin s c q => exact fgood_ratio (by rw [f1, f5]; decide) (by rw [f3, f4]; decide)
  obtain ⟨s', m', g1, g2, g3⟩ := enc64 hg
  have hc : FP.Core.convert FP.Core.b32 FP.Core.b64 (s * 2147483648 + m) = s' * 9223372036854775808 + m' := g3
  rw [h3, e, hc]
  refine ⟨vn64_nat g1 g2 rfl, ?_⟩
  have hd2 := (dec64 g1 g2 rfl).1
  have ho : FP.dcmp (UInt64.ofNat (s' * 9223372036854775808 + m')) (UInt64.ofNat (s' * 9223372036854775808 + m')) = some .eq := by
    show FP.Core.order (FP.Core.decode FP.Core.b64 (UInt64.ofNat (s' * 9223372036854775808 + m')).toNat) (FP.Core.decode FP.Core.b64 (UInt64.ofNat (s' * 9223372036854775808 + m')).toNat) = some .eq
    rw [ofNat64 g1 g2 rfl]
    exact order_self hd2
  rw [ho]
  rfl
end FPT
