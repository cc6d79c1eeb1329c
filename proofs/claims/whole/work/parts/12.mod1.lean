/-! 12: the reference's small functions -/
theorem nar_b0 : nar .boolean (J 0) = true := by decide
theorem nar_b1 : nar .boolean (J 1) = true := by decide
theorem gd_t1 {X : Type} {k : Option X} {b : Bool} (h : b = true) : gd b k = k := by rw [h]; rfl
theorem J_sub1_lt {a n : Nat} (ha : a < 2147483648) (hn : n < 2147483648) : J a - J 1 < J n ↔ a ≤ n := by
  cases a with
  | zero =>
    have e : J 0 - J 1 = -J 1 := by decide
    rw [e, Int32.lt_iff_toInt_lt, J_toInt hn, show (-J 1).toInt = -1 by decide]
    exact ⟨fun _ => Nat.zero_le _, fun _ => by omega⟩
  | succ a =>
    rw [J_sub (by omega), J_lt (by omega) hn]
    omega
theorem if_p {X : Type} {p : Prop} [Decidable p] {a b : X} (h : p) : (if p then a else b) = a := if_pos h
theorem if_n {X : Type} {p : Prop} [Decidable p] {a b : X} (h : ¬ p) : (if p then a else b) = b := if_neg h
theorem J_lt0 {n : Nat} (h : n < 2147483648) : ¬ J n < J 0 := J_neg h
theorem M_in {n a b : Nat} {d : Dt} (hn : n < 2147483648) (ha : a < 2147483648) (hb : b < 2147483648) : f_M_in (J n) (J a) (J b) d = some (J (if a ≤ n ∧ n ≤ b then 1 else 0)) := by
  unfold f_M_in
  simp (disch := omega) only [ite_true, ite_false, J_lit, J_add, J_mul, J_nat, J_inb, J_le, J_lt, J_inj, J_sub, J_div, gd_d, if_p, if_n, ob1_s, ob2_s, ir_s, ok_bnd]
  by_cases h1 : n < a
  · rw [if_pos h1, if_neg (by omega)]
  · rw [if_neg h1]
    by_cases h2 : b < n
    · rw [if_pos h2, if_neg (by omega)]
    · rw [if_neg h2, if_pos (by omega)]
/-- a number in [0, n) -/
def isIn (n : Nat) (x : Int32) : Prop := ∃ k, k < n ∧ x = J k
theorem M_in1 {n : Nat} {x : Int32} {d : Dt} (hn : n < 2147483648) : (isIn n x → f_M_in x (J 0) (J n - J 1) d = some (J 1)) ∧ (¬ isIn n x → f_M_in x (J 0) (J n - J 1) d = some (J 0)) := by
  unfold f_M_in
  rcases J_cases x with hx | ⟨k, hk, rfl⟩
  · refine ⟨fun ⟨k, h1, h2⟩ => ?_, fun _ => if_pos hx⟩
    rw [h2] at hx
    exact absurd hx (J_neg (by omega))
  · rw [if_neg (J_neg hk)]
    refine ⟨fun ⟨k', h1, h2⟩ => ?_, fun h => ?_⟩
    · have h3 := (J_inj hk (by omega)).mp h2
      rw [if_neg (fun q => by have := (J_sub1_lt hn hk).mp q; omega)]
      rfl
    · rw [if_pos ((J_sub1_lt hn hk).mpr (Nat.not_lt.mp fun q => h ⟨k, q, rfl⟩))]
      rfl
theorem M_isLantern {d : Dt} {g : Nat → Nat} {x : Int32} (hr : rowN d 293 0 g) (h8 : g 0 ≤ 8) : (isIn (g 0) x → f_M_isLantern x d = some (J 1)) ∧ (¬ isIn (g 0) x → f_M_isLantern x d = some (J 0)) := by
  unfold f_M_isLantern
  rw [hr.at (j := 0) (by decide)]
  have h := M_in1 (n := g 0) (x := x) (d := d) (by omega)
  refine ⟨fun q => ?_, fun q => ?_⟩
  · have e := h.1 q
    simp only [J_lit] at *
    rw [e, ob1_s, gd_t1 nar_b1]
  · have e := h.2 q
    simp only [J_lit] at *
    rw [e, ob1_s, gd_t1 nar_b0]
theorem M_isStatement {d : Dt} {g : Nat → Nat} {x : Int32} (hr : rowN d 293 0 g) (h8 : g 4 ≤ 12) : (isIn (g 4) x → f_M_isStatement x d = some (J 1)) ∧ (¬ isIn (g 4) x → f_M_isStatement x d = some (J 0)) := by
  unfold f_M_isStatement
  rw [hr.at (j := 4) (by decide)]
  have h := M_in1 (n := g 4) (x := x) (d := d) (by omega)
  refine ⟨fun q => ?_, fun q => ?_⟩
  · have e := h.1 q
    simp only [J_lit] at *
    rw [e, ob1_s, gd_t1 nar_b1]
  · have e := h.2 q
    simp only [J_lit] at *
    rw [e, ob1_s, gd_t1 nar_b0]
theorem M_fails {d : Dt} {c : Nat} (hc : c < 10) : f_M_fails (J c) d = some (J (if c = 0 then 0 else 1), wr d 292 7 (J c)) := by
  unfold f_M_fails bnd
  simp (disch := omega) only [ite_true, ite_false, J_lit, J_add, J_mul, J_nat, J_inb, J_le, J_lt, J_inj, J_sub, J_div, gd_d, if_p, if_n, ob1_s, ob2_s, ir_s, ok_bnd]
  by_cases h : c ≤ 0
  · rw [if_pos h, if_pos (by omega)]
  · rw [if_neg h, if_neg (by omega)]
theorem M_of {d : Dt} {i k : Nat} (hi : i < 8) (hk : k < 11) : f_M_of (J i) (J k) d = some (d 293 (13 + 11 * i + k)) := by
  unfold f_M_of
  simp (disch := omega) only [ite_true, ite_false, J_lit, J_add, J_mul, J_nat, J_inb, J_le, J_lt, J_inj, J_sub, J_div, gd_d, if_p, if_n, ob1_s, ob2_s, ir_s, ok_bnd]
theorem M_brief {d : Dt} {i k : Nat} (hi : i < 10) (hk : k < 5) : f_M_brief (J i) (J k) d = some (d 293 (101 + 5 * i + k)) := by
  unfold f_M_brief
  simp (disch := omega) only [ite_true, ite_false, J_lit, J_add, J_mul, J_nat, J_inb, J_le, J_lt, J_inj, J_sub, J_div, gd_d, if_p, if_n, ob1_s, ob2_s, ir_s, ok_bnd]
theorem M_says {d : Dt} {i k : Nat} (hi : i < 12) (hk : k < 3) : f_M_says (J i) (J k) d = some (d 293 (151 + 3 * i + k)) := by
  unfold f_M_says
  simp (disch := omega) only [ite_true, ite_false, J_lit, J_add, J_mul, J_nat, J_inb, J_le, J_lt, J_inj, J_sub, J_div, gd_d, if_p, if_n, ob1_s, ob2_s, ir_s, ok_bnd]
theorem M_lays {d : Dt} {i k : Nat} {v : Int32} (hi : i < 8) (hk : k < 11) : f_M_lays (J i) (J k) v d = some (wr d 293 (13 + 11 * i + k) v) := by
  unfold f_M_lays bnd
  simp (disch := omega) only [ite_true, ite_false, J_lit, J_add, J_mul, J_nat, J_inb, J_le, J_lt, J_inj, J_sub, J_div, gd_d, if_p, if_n, ob1_s, ob2_s, ir_s, ok_bnd]
theorem M_isNone {d : Dt} {g : Nat → Nat} {x : Int32} (hr : rowN d 293 0 g) (h8 : g 0 ≤ 8) : (isIn (g 0) x → f_M_isNone x d = some (J 0, wr d 292 7 (J 0))) ∧ (¬ isIn (g 0) x → f_M_isNone x d = some (J 1, wr d 292 7 (J 1))) := by
  unfold f_M_isNone f_M_isNone_14
  refine ⟨fun q => ?_, fun q => ?_⟩
  · rw [(M_isLantern hr h8).1 q, ob1_s]
    simp (disch := omega) only [ite_true, ite_false, J_lit, J_add, J_mul, J_nat, J_inb, J_le, J_lt, J_inj, J_sub, J_div, gd_d, if_p, if_n, ob1_s, ob2_s, ir_s, ok_bnd, M_fails, if_p, if_n, ob2_s, gd_t1 nar_b0]
  · rw [(M_isLantern hr h8).2 q, ob1_s]
    simp (disch := omega) only [ite_true, ite_false, J_lit, J_add, J_mul, J_nat, J_inb, J_le, J_lt, J_inj, J_sub, J_div, gd_d, if_p, if_n, ob1_s, ob2_s, ir_s, ok_bnd, M_fails, if_p, if_n, ob2_s, gd_t1 nar_b1]
