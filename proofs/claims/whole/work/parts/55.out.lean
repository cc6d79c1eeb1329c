/-! 55: writing: signs and numbers, both sides -/
section OUT
variable {D D' : Nat} {d d' d1 d2 : Dt} {l : List Nat} {c n i : Nat} {g : Nat → Nat}
/-- the class's output -/
def OC (d : Dt) (l : List Nat) : Prop := d 290 1 = J l.length ∧ ∀ j, j < l.length → d 291 j = J (l.getD j 0)
/-- the reference's -/
def OM (d : Dt) (l : List Nat) : Prop := d 292 13 = J l.length ∧ ∀ j, j < l.length → d 298 j = J (l.getD j 0)
theorem getD_app {j : Nat} : (l ++ [c]).getD j 0 = if j < l.length then l.getD j 0 else if j = l.length then c else 0 := by
  rw [List.getD_eq_getElem?_getD]
  by_cases h : j < l.length
  · rw [if_p h, List.getElem?_append_left h, ← List.getD_eq_getElem?_getD]
  · rw [if_n h, List.getElem?_append_right (by omega)]
    by_cases h2 : j = l.length
    · rw [if_p h2, h2, Nat.sub_self]
      rfl
    · rw [if_n h2, List.getElem?_eq_none (by show 1 ≤ j - l.length; omega)]
      rfl
def frC (d d' : Dt) : Prop := ∀ k, k ≠ 290 → k ≠ 291 → d' k = d k
def frM (d d' : Dt) : Prop := (∀ k, k ≠ 292 → k ≠ 298 → d' k = d k) ∧ ∀ j, j ≠ 13 → d' 292 j = d 292 j
theorem frC.trans (h : frC d d1) (h2 : frC d1 d2) : frC d d2 := fun k h3 h4 => (h2 k h3 h4).trans (h k h3 h4)
theorem frM.trans (h : frM d d1) (h2 : frM d1 d2) : frM d d2 := ⟨fun k h3 h4 => (h2.1 k h3 h4).trans (h.1 k h3 h4), fun j hj => (h2.2 j hj).trans (h.2 j hj)⟩
theorem frC.refl : frC d d := fun _ _ _ => rfl
theorem frM.refl : frM d d := ⟨fun _ _ _ => rfl, fun _ _ => rfl⟩
theorem O_put (h : OC d l) (hl : l.length < 128) (hc : c < 65536) : ok (f_O_put (J c) d) (fun d' => OC d' (l ++ [c]) ∧ frC d d') := by
  obtain ⟨h1, h2⟩ := h
  unfold f_O_put
  simp only [J_lit]
  rw [h1, if_n (fun q => by have := (J_le (by omega) (by omega)).mp q; omega), J_inb (by omega), gd_d (by omega), gd_t1 (nar_ch hc), ok_bnd, wr_k (show 290 ≠ 291 by decide), h1, J_add, J_nat (by omega), ok_bnd, ok_s]
  refine ⟨⟨by rw [wr_s, List.length_append]; rfl, fun j hj => ?_⟩, fun k h3 h4 => by rw [wr_k h3, wr_k h4]⟩
  rw [List.length_append] at hj
  have hj2 : j < l.length + 1 := hj
  rw [wr_k (by decide), wr_i, getD_app]
  by_cases q : j = l.length
  · rw [if_p q, if_n (by omega), if_p q]
  · rw [if_n q, if_p (by omega)]
    exact h2 j (by omega)
theorem M_writes (h : OM d l) (hl : l.length < 60) (hc : c < 65536) : ok (f_M_writes (J c) d) (fun d' => OM d' (l ++ [c]) ∧ frM d d') := by
  obtain ⟨h1, h2⟩ := h
  unfold f_M_writes
  simp only [J_lit]
  rw [h1, J_inb (by omega), gd_d (by omega), show ((J c).toUInt32 % 65536).toInt32 = J c from J_i2c hc, gd_t1 (nar_ch hc), ok_bnd, wr_k (show 292 ≠ 298 by decide), h1, J_add, J_nat (by omega), ok_bnd, ok_s]
  refine ⟨⟨by rw [wr_s, List.length_append]; rfl, fun j hj => ?_⟩, fun k h3 h4 => by rw [wr_k h3, wr_k h4], fun j hj => by rw [wr_j hj, wr_k (by decide)]⟩
  rw [List.length_append] at hj
  have hj2 : j < l.length + 1 := hj
  rw [wr_k (by decide), wr_i, getD_app]
  by_cases q : j = l.length
  · rw [if_p q, if_n (by omega), if_p q]
  · rw [if_n q, if_p (by omega)]
    exact h2 j (by omega)
/-- the units, the digits of a number written so far -/
def un (i : Nat) : Nat := 1000000000 / 10 ^ i
def eU (n : Nat) : Nat → List Nat
  | 0 => []
  | i + 1 => eU n i ++ (if un i ≤ n ∨ un i = 1 then [48 + n / un i % 10] else [])
theorem eU_len : ∀ i, (eU n i).length ≤ i := by
  intro i
  induction i with
  | zero => exact Nat.le_refl _
  | succ i ih =>
    show (eU n i ++ (if un i ≤ n ∨ un i = 1 then [48 + n / un i % 10] else [])).length ≤ i + 1
    rw [List.length_append]
    by_cases q : un i ≤ n ∨ un i = 1
    · rw [if_p q]
      show _ + 1 ≤ _
      omega
    · rw [if_n q]
      show _ + 0 ≤ _
      omega
theorem un_pos : ∀ i, i < 10 → 1 ≤ un i ∧ un i ≤ 1000000000 ∧ un i / 10 = un (i + 1) := by decide
theorem O_num (h : OC d l) (hl : l.length + 10 < 128) (hn : n < 100000) : ok (f_O_putNumber (J n) d) (fun d' => OC d' (l ++ eU n 10) ∧ frC d d') := by
  unfold f_O_putNumber f_O_putNumber_3
  simp only [J_lit]
  refine iter_up 0 10 (fun i z => ∃ d5, z = (J (un i), d5) ∧ OC d5 (l ++ eU n i) ∧ frC d d5) ⟨d, rfl, by show OC d (l ++ []); rw [List.append_nil]; exact h, frC.refl⟩ (by decide) (by decide) ?_ ?_
  · intro i z hi hz
    obtain ⟨d5, rfl, z1, z2⟩ := hz
    obtain ⟨u1, u2, u3⟩ := un_pos i hi
    have hlen := eU_len (n := n) i
    have e : eU n (i + 1) = eU n i ++ (if un i ≤ n ∨ un i = 1 then [48 + n / un i % 10] else []) := rfl
    have hlen2 : (l ++ eU n i).length < 128 := by rw [List.length_append]; omega
    have go : (un i ≤ n ∨ un i = 1) → ok (f_O_putNumber_18 (J n) (J (un i)) d5) (fun y => (∃ s', y = .inl s' ∧ ∃ d5, s' = (J (un (i + 1)), d5) ∧ OC d5 (l ++ eU n (i + 1)) ∧ frC d d5) ∨ ∃ x, y = .inr x ∧ OC x (l ++ eU n 10) ∧ frC d x) := fun q => by
      have hq : n / un i ≤ n := Nat.div_le_self _ _
      have hq2 : n / un i / 10 * 10 ≤ n / un i := Nat.div_mul_le_self _ _
      have hm : n / un i - n / un i / 10 * 10 = n / un i % 10 := by omega
      have hm2 : n / un i % 10 < 10 := Nat.mod_lt _ (by decide)
      unfold f_O_putNumber_18
      simp only [J_lit]
      rw [gd_d (J_ne (by omega) (by omega) (by decide)), J_div (by omega) (by omega), J_div (by omega) (by omega), J_mul, J_sub hq2, hm, J_add, show ((J (48 + n / un i % 10)).toUInt32 % 65536).toInt32 = J (48 + n / un i % 10) from J_i2c (by omega), J_div (by omega) (by omega), u3, ok_ob1]
      refine ok_mono (O_put z1 hlen2 (by omega)) (fun d6 h6 => ?_)
      rw [ok_s]
      refine Or.inl ⟨_, rfl, d6, rfl, ?_, z2.trans h6.2⟩
      rw [e, if_p q, ← List.append_assoc]
      exact h6.1
    unfold st_O_putNumber_3
    simp only [J_lit]
    rw [if_n (fun q => by have := (J_lt (by omega) (by omega)).mp q; omega)]
    by_cases q : un i ≤ n
    · rw [if_p ((J_le (by omega) (by omega)).mpr q)]
      exact go (Or.inl q)
    · rw [if_n (fun u => q ((J_le (by omega) (by omega)).mp u))]
      by_cases q2 : un i = 1
      · rw [if_p (by rw [q2])]
        exact go (Or.inr q2)
      · rw [if_n (J_ne q2 (by omega) (by decide)), ok_s, J_div (by omega) (by omega), u3]
        refine Or.inl ⟨_, rfl, d5, rfl, ?_, z2⟩
        rw [e, if_n (fun t => by rcases t with t | t <;> contradiction), List.append_nil]
        exact z1
  · intro z hz
    obtain ⟨d5, rfl, z1, z2⟩ := hz
    unfold st_O_putNumber_3
    simp only [J_lit]
    rw [show un 10 = 0 by decide, if_p (show J 0 < J 1 by decide), ok_ir, ok_s]
    exact ⟨_, rfl, z1, z2⟩
/-- the digits of a number -/
def dg (n : Nat) : List Nat := if n ≤ 9 then [48 + n % 10] else if n ≤ 99 then [48 + n / 10 % 10, 48 + n % 10] else if n ≤ 999 then [48 + n / 100 % 10, 48 + n / 10 % 10, 48 + n % 10] else if n ≤ 9999 then [48 + n / 1000 % 10, 48 + n / 100 % 10, 48 + n / 10 % 10, 48 + n % 10] else [48 + n / 10000 % 10, 48 + n / 1000 % 10, 48 + n / 100 % 10, 48 + n / 10 % 10, 48 + n % 10]
theorem dg_len (hn : n < 100000) : 1 ≤ (dg n).length ∧ (dg n).length ≤ 5 := by
  unfold dg
  by_cases h1 : n ≤ 9
  · rw [if_p h1]; exact ⟨by show 1 ≤ 1; decide, by show 1 ≤ 5; decide⟩
  · rw [if_n h1]
    by_cases h2 : n ≤ 99
    · rw [if_p h2]; exact ⟨by show 1 ≤ 2; decide, by show 2 ≤ 5; decide⟩
    · rw [if_n h2]
      by_cases h3 : n ≤ 999
      · rw [if_p h3]; exact ⟨by show 1 ≤ 3; decide, by show 3 ≤ 5; decide⟩
      · rw [if_n h3]
        by_cases h4 : n ≤ 9999
        · rw [if_p h4]; exact ⟨by show 1 ≤ 4; decide, by show 4 ≤ 5; decide⟩
        · rw [if_n h4]; exact ⟨by show 1 ≤ 5; decide, by show 5 ≤ 5; decide⟩
theorem dg_ch (hn : n < 100000) : ∀ c, c ∈ dg n → c < 65536 := by
  intro c hc
  have hm : ∀ k, 48 + k % 10 < 65536 := fun k => by have := Nat.mod_lt k (show 0 < 10 by decide); omega
  unfold dg at hc
  by_cases h1 : n ≤ 9
  · rw [if_p h1] at hc
    simp only [List.mem_cons, List.not_mem_nil, or_false] at hc
    rw [hc]; exact hm _
  · rw [if_n h1] at hc
    by_cases h2 : n ≤ 99
    · rw [if_p h2] at hc
      simp only [List.mem_cons, List.not_mem_nil, or_false] at hc
      rcases hc with hc | hc <;> rw [hc] <;> exact hm _
    · rw [if_n h2] at hc
      by_cases h3 : n ≤ 999
      · rw [if_p h3] at hc
        simp only [List.mem_cons, List.not_mem_nil, or_false] at hc
        rcases hc with hc | hc | hc <;> rw [hc] <;> exact hm _
      · rw [if_n h3] at hc
        by_cases h4 : n ≤ 9999
        · rw [if_p h4] at hc
          simp only [List.mem_cons, List.not_mem_nil, or_false] at hc
          rcases hc with hc | hc | hc | hc <;> rw [hc] <;> exact hm _
        · rw [if_n h4] at hc
          simp only [List.mem_cons, List.not_mem_nil, or_false] at hc
          rcases hc with hc | hc | hc | hc | hc <;> rw [hc] <;> exact hm _
theorem eU_dg (hn : n < 100000) : eU n 10 = dg n := by
  have e : ∀ i, eU n (i + 1) = eU n i ++ (if un i ≤ n ∨ un i = 1 then [48 + n / un i % 10] else []) := fun _ => rfl
  have e5 : eU n 5 = [] := by
    rw [e 4, e 3, e 2, e 1, e 0, show un 0 = 1000000000 by decide, show un 1 = 100000000 by decide, show un 2 = 10000000 by decide, show un 3 = 1000000 by decide, show un 4 = 100000 by decide, if_n (by omega), if_n (by omega), if_n (by omega), if_n (by omega), if_n (by omega)]
    rfl
  rw [e 9, e 8, e 7, e 6, e 5, e5, show un 5 = 10000 by decide, show un 6 = 1000 by decide, show un 7 = 100 by decide, show un 8 = 10 by decide, show un 9 = 1 by decide, Nat.div_one, if_p (show 1 ≤ n ∨ 1 = 1 from Or.inr rfl)]
  unfold dg
  by_cases h1 : n ≤ 9
  · rw [if_n (by omega), if_n (by omega), if_n (by omega), if_n (by omega), if_p h1]
    rfl
  · rw [if_n h1]
    by_cases h2 : n ≤ 99
    · rw [if_n (by omega), if_n (by omega), if_n (by omega), if_p (by omega), if_p h2]
      rfl
    · rw [if_n h2]
      by_cases h3 : n ≤ 999
      · rw [if_n (by omega), if_n (by omega), if_p (by omega), if_p (by omega), if_p h3]
        rfl
      · rw [if_n h3]
        by_cases h4 : n ≤ 9999
        · rw [if_n (by omega), if_p (by omega), if_p (by omega), if_p (by omega), if_p h4]
          rfl
        · rw [if_n h4, if_p (by omega), if_p (by omega), if_p (by omega), if_p (by omega)]
          rfl
/-- the reference: the last digit -/
theorem M_last (h : OM d l) (hl : l.length < 60) (hn : n < 100000) {F : Int32 → Dt → Option Dt} (hF : ∀ x d, F x d = ob1 (f_M_writes (48 + (x - x / 10 * 10)) d) fun d1 => some d1) : ok (F (J n) d) (fun d' => OM d' (l ++ [48 + n % 10]) ∧ frM d d') := by
  have hq2 : n / 10 * 10 ≤ n := Nat.div_mul_le_self _ _
  have hm : n - n / 10 * 10 = n % 10 := by omega
  have hm2 : n % 10 < 10 := Nat.mod_lt _ (by decide)
  rw [hF]
  simp only [J_lit]
  rw [J_div (by omega) (by omega), J_mul, J_sub hq2, hm, J_add, ok_ob1]
  refine ok_mono (M_writes h hl (by omega)) (fun d6 h6 => ?_)
  rw [ok_s]
  exact h6
theorem M_r1 (h : OM d l) (hl : l.length < 56) (hn : n < 10) : ok (f_M_writesNumber_r1 (J n) d) (fun d' => OM d' (l ++ [48 + n % 10]) ∧ frM d d') := by
  unfold f_M_writesNumber_r1
  simp only [J_lit]
  rw [if_p ((J_le (by omega) (by omega)).mpr (by omega))]
  exact M_last h (by omega) (by omega) (fun x d => rfl)
theorem M_r2 (h : OM d l) (hl : l.length < 56) (hn : n < 100) : ok (f_M_writesNumber_r2 (J n) d) (fun d' => OM d' (l ++ (if n ≤ 9 then [48 + n % 10] else [48 + n / 10 % 10, 48 + n % 10])) ∧ frM d d') := by
  unfold f_M_writesNumber_r2
  simp only [J_lit]
  by_cases q : n ≤ 9
  · rw [if_p ((J_le (by omega) (by omega)).mpr q), if_p q]
    exact M_last h (by omega) (by omega) (fun x d => rfl)
  · rw [if_n (fun u => q ((J_le (by omega) (by omega)).mp u)), if_n q, J_div (by omega) (by omega), ok_ob1]
    refine ok_mono (M_r1 (n := n / 10) h hl (by omega)) (fun d1 h1 => ?_)
    refine ok_mono (M_last (n := n) h1.1 (by rw [List.length_append]; show l.length + 1 < 60; omega) (by omega) (fun x d => rfl)) (fun d2 h2 => ⟨?_, h1.2.trans h2.2⟩)
    have := h2.1
    rw [List.append_assoc] at this
    exact this
theorem M_r3 (h : OM d l) (hl : l.length < 56) (hn : n < 1000) : ok (f_M_writesNumber_r3 (J n) d) (fun d' => OM d' (l ++ (if n ≤ 9 then [48 + n % 10] else if n ≤ 99 then [48 + n / 10 % 10, 48 + n % 10] else [48 + n / 100 % 10, 48 + n / 10 % 10, 48 + n % 10])) ∧ frM d d') := by
  unfold f_M_writesNumber_r3
  simp only [J_lit]
  by_cases q : n ≤ 9
  · rw [if_p ((J_le (by omega) (by omega)).mpr q), if_p q]
    exact M_last h (by omega) (by omega) (fun x d => rfl)
  · rw [if_n (fun u => q ((J_le (by omega) (by omega)).mp u)), if_n q, J_div (by omega) (by omega), ok_ob1]
    refine ok_mono (M_r2 (n := n / 10) h hl (by omega)) (fun d1 h1 => ?_)
    have hlen : (if n / 10 ≤ 9 then [48 + n / 10 % 10] else [48 + n / 10 / 10 % 10, 48 + n / 10 % 10]).length ≤ 2 := by split <;> simp
    refine ok_mono (M_last (n := n) h1.1 (by rw [List.length_append]; omega) (by omega) (fun x d => rfl)) (fun d2 h2 => ⟨?_, h1.2.trans h2.2⟩)
    have := h2.1
    rw [List.append_assoc] at this
    by_cases q2 : n ≤ 99
    · rw [if_p (by omega)] at this
      rw [if_p q2]
      exact this
    · rw [if_n (by omega), Nat.div_div_eq_div_mul] at this
      rw [if_n q2]
      exact this
theorem M_r4 (h : OM d l) (hl : l.length < 56) (hn : n < 10000) : ok (f_M_writesNumber_r4 (J n) d) (fun d' => OM d' (l ++ (if n ≤ 9 then [48 + n % 10] else if n ≤ 99 then [48 + n / 10 % 10, 48 + n % 10] else if n ≤ 999 then [48 + n / 100 % 10, 48 + n / 10 % 10, 48 + n % 10] else [48 + n / 1000 % 10, 48 + n / 100 % 10, 48 + n / 10 % 10, 48 + n % 10])) ∧ frM d d') := by
  unfold f_M_writesNumber_r4
  simp only [J_lit]
  by_cases q : n ≤ 9
  · rw [if_p ((J_le (by omega) (by omega)).mpr q), if_p q]
    exact M_last h (by omega) (by omega) (fun x d => rfl)
  · rw [if_n (fun u => q ((J_le (by omega) (by omega)).mp u)), if_n q, J_div (by omega) (by omega), ok_ob1]
    refine ok_mono (M_r3 (n := n / 10) h hl (by omega)) (fun d1 h1 => ?_)
    have hlen : (if n / 10 ≤ 9 then [48 + n / 10 % 10] else if n / 10 ≤ 99 then [48 + n / 10 / 10 % 10, 48 + n / 10 % 10] else [48 + n / 10 / 100 % 10, 48 + n / 10 / 10 % 10, 48 + n / 10 % 10]).length ≤ 3 := by
      split
      · simp
      · split <;> simp
    refine ok_mono (M_last (n := n) h1.1 (by rw [List.length_append]; omega) (by omega) (fun x d => rfl)) (fun d2 h2 => ⟨?_, h1.2.trans h2.2⟩)
    have := h2.1
    rw [List.append_assoc] at this
    by_cases q2 : n ≤ 99
    · rw [if_p (by omega)] at this
      rw [if_p q2]
      exact this
    · rw [if_n (by omega), Nat.div_div_eq_div_mul, Nat.div_div_eq_div_mul] at this
      rw [if_n q2]
      by_cases q3 : n ≤ 999
      · rw [if_p (by omega)] at this
        rw [if_p q3]
        exact this
      · rw [if_n (by omega)] at this
        rw [if_n q3]
        exact this
theorem M_num (h : OM d l) (hl : l.length < 56) (hn : n < 100000) : ok (f_M_writesNumber_r5 (J n) d) (fun d' => OM d' (l ++ dg n) ∧ frM d d') := by
  unfold f_M_writesNumber_r5 dg
  simp only [J_lit]
  by_cases q : n ≤ 9
  · rw [if_p ((J_le (by omega) (by omega)).mpr q), if_p q]
    exact M_last h (by omega) (by omega) (fun x d => rfl)
  · rw [if_n (fun u => q ((J_le (by omega) (by omega)).mp u)), if_n q, J_div (by omega) (by omega), ok_ob1]
    refine ok_mono (M_r4 (n := n / 10) h hl (by omega)) (fun d1 h1 => ?_)
    have hlen : (if n / 10 ≤ 9 then [48 + n / 10 % 10] else if n / 10 ≤ 99 then [48 + n / 10 / 10 % 10, 48 + n / 10 % 10] else if n / 10 ≤ 999 then [48 + n / 10 / 100 % 10, 48 + n / 10 / 10 % 10, 48 + n / 10 % 10] else [48 + n / 10 / 1000 % 10, 48 + n / 10 / 100 % 10, 48 + n / 10 / 10 % 10, 48 + n / 10 % 10]).length ≤ 4 := by
      split
      · simp
      · split
        · simp
        · split <;> simp
    refine ok_mono (M_last (n := n) h1.1 (by rw [List.length_append]; omega) (by omega) (fun x d => rfl)) (fun d2 h2 => ⟨?_, h1.2.trans h2.2⟩)
    have := h2.1
    rw [List.append_assoc] at this
    by_cases q2 : n ≤ 99
    · rw [if_p (by omega)] at this
      rw [if_p q2]
      exact this
    · rw [if_n (by omega), Nat.div_div_eq_div_mul, Nat.div_div_eq_div_mul, Nat.div_div_eq_div_mul] at this
      rw [if_n q2]
      by_cases q3 : n ≤ 999
      · rw [if_p (by omega)] at this
        rw [if_p q3]
        exact this
      · rw [if_n (by omega)] at this
        rw [if_n q3]
        by_cases q4 : n ≤ 9999
        · rw [if_p (by omega)] at this
          rw [if_p q4]
          exact this
        · rw [if_n (by omega)] at this
          rw [if_n q4]
          exact this
end OUT
