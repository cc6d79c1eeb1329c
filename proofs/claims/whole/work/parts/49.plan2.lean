/-! 49: the class's plan -/
section PLAN2
variable {D : Nat} {d d1 : Dt} {g : Nat → Nat} {n m i j k r x y t b : Nat} {T : Nat} {Q : Dt → Prop}
/-- the sets of what is due -/
def duC (d : Dt) (g : Nat → Nat) : Prop := ∀ t, t < 13 → d 280 t = J (mkB (due g t) (g 3))
theorem P_due21 (hS : Sim d 2 g) (hw : WF D g) (hD : D < 100000) (ht : t < 13) (h0 : d 280 t = J 0) : ok (f_P_findDueSets_21 (J (g 1)) (J t) (J 0) d) (fun z => ∃ d', z = .inl (J (t + 1), d') ∧ d' 280 t = J (mkB (due g t) (g 3)) ∧ (∀ u, u ≠ t → d' 280 u = d 280 u) ∧ ∀ k, k ≠ 280 → d' k = d k) := by
  have h10 := hw.nb
  have h1 := hw.day
  have e16 : d 16 0 = J (g 3) := hS.nb
  unfold f_P_findDueSets_21
  refine iter_up 0 (g 3) (fun n z => ∃ d5, z = (J n, d5) ∧ d5 280 t = J (mkB (due g t) n) ∧ (∀ u, u ≠ t → d5 280 u = d 280 u) ∧ ∀ k, k ≠ 280 → d5 k = d k) ⟨d, rfl, h0, fun _ _ => rfl, fun _ _ => rfl⟩ (Nat.zero_le _) (by omega) ?_ ?_
  · intro n z hn hz
    obtain ⟨d5, rfl, z1, z2, z3⟩ := hz
    have bn := hw.br hn
    have e19 : d5 19 n = J (g (103 + 5 * n)) := by rw [z3 19 (by decide)]; exact hS.bld hn
    have e : mkB (due g t) (n + 1) = if due g t n then mkB (due g t) n ||| 2 ^ n else mkB (due g t) n := rfl
    unfold st_P_findDueSets_21
    simp only [J_lit]
    rw [z3 16 (by decide), e16, if_n (fun q => by have := (J_le (by omega) (by omega)).mp q; omega), J_inb (by omega), gd_d (by omega), J_nat (by omega), e19, J_sub (by omega), J_shl (by omega), J_inb (by omega), gd_d (by omega), gd_d (by omega), J_nat (by omega), z1, J_or, J_add]
    by_cases q : g (103 + 5 * n) ≤ g 1 + t
    · rw [if_n (fun u => by have := (J_lt (by omega) (by omega)).mp u; omega), ok_bnd, ok_s]
      rw [show due g t n = true from decide_eq_true q, if_p (show true = true from rfl)] at e
      refine Or.inl ⟨_, rfl, _, rfl, ?_, fun u hu => ?_, fun k hk => ?_⟩
      · rw [wr_s, e]
      · rw [wr_j hu]; exact z2 u hu
      · rw [wr_k hk]; exact z3 k hk
    · rw [if_p ((J_lt (by omega) (by omega)).mpr (by omega)), ok_s]
      rw [show due g t n = false from decide_eq_false q, if_n (by decide)] at e
      exact Or.inl ⟨_, rfl, d5, rfl, by rw [e]; exact z1, z2, z3⟩
  · intro z hz
    obtain ⟨d5, rfl, z1, z2, z3⟩ := hz
    unfold st_P_findDueSets_21
    simp only [J_lit]
    rw [z3 16 (by decide), e16, if_p ((J_le (by omega) (by omega)).mpr (Nat.le_refl _)), ok_ir, ok_s, J_add]
    exact ⟨_, rfl, d5, rfl, z1, z2, z3⟩
theorem P_findDue (hS : Sim d 2 g) (hw : WF D g) (hD : D < 100000) : ok (f_P_findDueSets (J (g 1)) d) (fun d' => duC d' g ∧ ∀ k, k ≠ 280 → d' k = d k) := by
  unfold f_P_findDueSets f_P_findDueSets_2
  simp only [J_lit]
  refine iter_up 0 13 (fun n z => ∃ d5, z = (J n, d5) ∧ (∀ t, t < n → d5 280 t = J (mkB (due g t) (g 3))) ∧ ∀ k, k ≠ 280 → d5 k = d k) ⟨d, rfl, fun t ht => absurd ht (Nat.not_lt_zero t), fun _ _ => rfl⟩ (by decide) (by decide) ?_ ?_
  · intro n z hn hz
    obtain ⟨d5, rfl, z1, z2⟩ := hz
    unfold st_P_findDueSets_2
    simp only [J_lit]
    rw [if_n (fun q => by have := (J_le (by omega) (by omega)).mp q; omega), J_inb (by omega), gd_d (by omega), ok_bnd, J_nat (by omega)]
    have hS5 : Sim (wr d5 280 n (J 0)) 2 g := hS.same hw.nl (fun k h3 h4 => by rw [wr_k (by omega)]; exact z2 k (by omega))
    refine ok_mono (P_due21 hS5 hw hD hn wr_s) (fun z hz => ?_)
    obtain ⟨d6, rfl, y1, y2, y3⟩ := hz
    refine Or.inl ⟨_, rfl, d6, rfl, fun t ht => ?_, fun k hk => by rw [y3 k hk, wr_k hk]; exact z2 k hk⟩
    rcases (by omega : t < n ∨ t = n) with u | rfl
    · rw [y2 t (by omega), wr_j (by omega)]
      exact z1 t u
    · exact y1
  · intro z hz
    obtain ⟨d5, rfl, z1, z2⟩ := hz
    unfold st_P_findDueSets_2
    simp only [J_lit]
    rw [if_p (show J 13 ≤ J 13 by decide), ok_ir, ok_s]
    exact ⟨_, rfl, z1, z2⟩
theorem pc_and (hn : n ≤ 12) {p : Nat → Bool} : pc (x &&& mkB p n) 12 = cntN (fun i => x.testBit i && p i) n := by
  have hlt : x &&& mkB p n < 2 ^ n := Nat.lt_of_le_of_lt Nat.and_le_right mkB_lt
  have h := pc_top hlt (12 - n)
  rw [show n + (12 - n) = 12 by omega] at h
  rw [h, pc_cnt]
  exact cntN_congr n (fun i hi => by rw [Nat.testBit_and, mkB_at hi])
theorem P_possible (hC : duC d g) (hw : WF D g) (hx : x < 1024) : f_P_isPossible (J x) d = some (J (if psb g x then 1 else 0)) := by
  have h10 := hw.nb
  apply ok_eq
  unfold f_P_isPossible f_P_isPossible_2
  simp only [J_lit]
  refine iter_up 0 13 (fun n z => z = J n ∧ ∀ t, t < n → dcn g x.testBit t ≤ t) ⟨rfl, fun t ht => absurd ht (Nat.not_lt_zero t)⟩ (by decide) (by decide) ?_ ?_
  · intro n z hn hz
    obtain ⟨rfl, hz⟩ := hz
    have hle : x &&& mkB (due g n) (g 3) ≤ x := Nat.and_le_left
    have e : pc (x &&& mkB (due g n) (g 3)) 12 = dcn g x.testBit n := pc_and (by omega)
    have hd : dcn g x.testBit n ≤ g 3 := cntN_le _
    unfold st_P_isPossible_2
    simp only [J_lit]
    rw [if_n (fun q => by have := (J_le (by decide) (by omega)).mp q; omega), J_inb (by omega), gd_d (by omega), J_nat (by omega), hC n hn, J_and, J_bc (by omega), ob1_s, e, J_add]
    by_cases q : dcn g x.testBit n ≤ n
    · rw [if_p ((J_le (by omega) (by omega)).mpr q), ok_s]
      refine Or.inl ⟨_, rfl, rfl, fun t ht => ?_⟩
      rcases (by omega : t < n ∨ t = n) with u | rfl
      · exact hz t u
      · exact q
    · rw [if_n (fun u => q ((J_le (by omega) (by omega)).mp u)), ok_ir, ok_s]
      refine Or.inr ⟨_, rfl, ?_⟩
      rw [if_n (fun u => q (psb_iff.mp u n hn))]
  · intro z hz
    obtain ⟨rfl, hz⟩ := hz
    unfold st_P_isPossible_2
    simp only [J_lit]
    rw [if_p (show J 13 ≤ J 13 by decide), ok_ir, ok_s]
    refine ⟨_, rfl, ?_⟩
    rw [if_p (psb_iff.mpr hz)]
/-- cells of the briefs -/
def brC (d : Dt) (g : Nat → Nat) : Prop := d 16 0 = J (g 3) ∧ ∀ k, k < g 3 → d 19 k = J (g (103 + 5 * k)) ∧ d 20 k = J (g (104 + 5 * k))
theorem Sim.brC (hS : Sim d 2 g) : brC d g := ⟨hS.nb, fun _ hk => ⟨hS.bld hk, hS.bfe hk⟩⟩
theorem brC.same (h : brC d g) (h1 : d1 16 = d 16) (h2 : d1 19 = d 19) (h3 : d1 20 = d 20) : brC d1 g := by
  unfold brC
  rw [h1, h2, h3]
  exact h
theorem P_before (h : brC d g) (hw : WF D g) (hD : D < 100000) (hi : i < g 3) (hj : j < g 3) : f_P_isDueBefore (J j) (J i) d = some (J (if kH g j < kH g i then 1 else 0)) := by
  have h10 := hw.nb
  have h1 := hw.day
  have a := hw.br hi
  have b := hw.br hj
  have hk := kH_lt hw hj hi
  unfold f_P_isDueBefore
  simp only [J_lit]
  rw [J_inb (by omega), gd_d (by omega), J_inb (by omega), gd_d (by omega), J_nat (by omega), J_nat (by omega), (h.2 i hi).1, (h.2 j hj).1]
  by_cases q : g (103 + 5 * j) = g (103 + 5 * i)
  · rw [if_p (by rw [q])]
    by_cases q2 : i ≤ j
    · rw [if_p ((J_le (by omega) (by omega)).mpr q2), if_n (fun u => by have := hk.mp u; omega)]
    · rw [if_n (fun u => q2 ((J_le (by omega) (by omega)).mp u)), if_p (hk.mpr (Or.inr ⟨q, by omega⟩))]
  · rw [if_n (J_ne q (by omega) (by omega))]
    by_cases q2 : g (103 + 5 * i) ≤ g (103 + 5 * j)
    · rw [if_p ((J_le (by omega) (by omega)).mpr q2), if_n (fun u => by have := hk.mp u; omega)]
    · rw [if_n (fun u => q2 ((J_le (by omega) (by omega)).mp u)), if_p (hk.mpr (Or.inl (by omega)))]
theorem P_visits15 (h : brC d g) (hw : WF D g) (hD : D < 100000) (hi : i < g 3) : f_P_orderVisits_15 (J i) (J 0) (J 0) d = some (.inl (J (i + 1), wr d 279 (rkD g i) (J i))) := by
  have h10 := hw.nb
  have hrl := rkD_lt hi
  have a := hw.br hi
  apply ok_eq
  unfold f_P_orderVisits_15
  refine iter_up 0 (g 3) (fun n z => z = (J (cntN (fun j => true && decide (kD g j < kD g i)) n), J n)) rfl (Nat.zero_le _) (by omega) ?_ ?_
  · intro n z hn hz
    subst hz
    have b := hw.br hn
    have e : cntN (fun j => true && decide (kD g j < kD g i)) (n + 1) = cntN (fun j => true && decide (kD g j < kD g i)) n + (if true && decide (kD g n < kD g i) then 1 else 0) := rfl
    obtain ⟨f1, f2⟩ := J_dif (g (104 + 5 * n)) (by omega) (g (104 + 5 * i)) (by omega)
    have hk : kD g n < kD g i ↔ (g (104 + 5 * i) < g (104 + 5 * n) ∨ (g (104 + 5 * n) = g (104 + 5 * i) ∧ kH g n < kH g i)) := by
      rw [kD_lt hw hn hi, kH_lt hw hn hi]
    unfold st_P_orderVisits_15
    simp only [J_lit]
    rw [h.1, if_n (fun q => by have := (J_le (by omega) (by omega)).mp q; omega), J_inb (by omega), gd_d (by omega), J_inb (by omega), gd_d (by omega), J_nat (by omega), J_nat (by omega), (h.2 n hn).2, (h.2 i hi).2, P_before h hw hD hi hn, ob1_s, J_add, J_add, e]
    by_cases q1 : g (104 + 5 * i) < g (104 + 5 * n)
    · rw [if_p (f1.mpr q1), ok_s, decide_eq_true (hk.mpr (Or.inl q1))]
      exact Or.inl ⟨_, rfl, rfl⟩
    · rw [if_n (fun u => q1 (f1.mp u))]
      by_cases q2 : g (104 + 5 * n) = g (104 + 5 * i)
      · rw [if_p (f2.mpr q2)]
        by_cases q3 : kH g n < kH g i
        · rw [if_p q3, if_n n10, ok_s, decide_eq_true (hk.mpr (Or.inr ⟨q2, q3⟩))]
          exact Or.inl ⟨_, rfl, rfl⟩
        · rw [if_n q3, if_p rfl, ok_s, decide_eq_false (fun u => by have := hk.mp u; omega)]
          exact Or.inl ⟨_, rfl, rfl⟩
      · rw [if_n (fun u => q2 (f2.mp u)), ok_s, decide_eq_false (fun u => by have := hk.mp u; omega)]
        exact Or.inl ⟨_, rfl, rfl⟩
  · intro z hz
    subst hz
    unfold st_P_orderVisits_15
    simp only [J_lit]
    rw [h.1, if_p ((J_le (by omega) (by omega)).mpr (Nat.le_refl _)), ok_ir]
    show ok (gd (inb (J (rkD g i)) 10) _) _
    rw [J_inb (by omega), gd_d (by omega), ok_bnd, ok_s, J_add]
    refine ⟨_, rfl, ?_⟩
    show Sum.inl (J (i + 1), wr d 279 (J (rkD g i)).toNatClampNeg (J i)) = _
    rw [J_nat (by omega)]
theorem P_visits (h : brC d g) (hw : WF D g) (hD : D < 100000) : ok (f_P_orderVisits d) (fun d' => (∀ i, i < g 3 → d' 279 (rkD g i) = J i) ∧ ∀ k, k ≠ 279 → d' k = d k) := by
  have h10 := hw.nb
  unfold f_P_orderVisits f_P_orderVisits_2
  simp only [J_lit]
  refine iter_up 0 (g 3) (fun n z => ∃ d5, z = (J n, d5) ∧ (∀ i, i < n → d5 279 (rkD g i) = J i) ∧ ∀ k, k ≠ 279 → d5 k = d k) ⟨d, rfl, fun i hi => absurd hi (Nat.not_lt_zero i), fun _ _ => rfl⟩ (Nat.zero_le _) (by omega) ?_ ?_
  · intro n z hn hz
    obtain ⟨d5, rfl, z1, z2⟩ := hz
    have h5 : brC d5 g := h.same (z2 16 (by decide)) (z2 19 (by decide)) (z2 20 (by decide))
    unfold st_P_orderVisits_2
    simp only [J_lit]
    rw [h5.1, if_n (fun q => by have := (J_le (by omega) (by omega)).mp q; omega), P_visits15 h5 hw hD hn, ok_s]
    refine Or.inl ⟨_, rfl, _, rfl, fun i hi => ?_, fun k hk => by rw [wr_k hk]; exact z2 k hk⟩
    rw [wr_i]
    rcases (by omega : i < n ∨ i = n) with u | rfl
    · rw [if_n (fun t => by have := rkD_inj hw (by omega) hn t; omega)]
      exact z1 i u
    · rw [if_p rfl]
  · intro z hz
    obtain ⟨d5, rfl, z1, z2⟩ := hz
    unfold st_P_orderVisits_2
    simp only [J_lit]
    rw [z2 16 (by decide), h.1, if_p ((J_le (by omega) (by omega)).mpr (Nat.le_refl _)), ok_ir, ok_s]
    exact ⟨_, rfl, z1, z2⟩
/-- the plan as the class holds it -/
def plC (d : Dt) (g : Nat → Nat) : Prop := d 277 1 = J (plT g) ∧ d 277 0 = J (plN g) ∧ ∀ i, i < g 3 → (plT g).testBit i = true → d 278 (hpl g i) = J i
theorem P_hear15 (h : brC d g) (hw : WF D g) (hD : D < 100000) (hT : d 277 1 = J (plT g)) (hi : i < g 3) : f_P_orderHearings_15 (J i) (J 0) (J 0) d = some (.inl (J (i + 1), if (plT g).testBit i then wr d 278 (hpl g i) (J i) else d)) := by
  have h10 := hw.nb
  have a := hw.br hi
  apply ok_eq
  unfold f_P_orderHearings_15
  refine iter_up 0 (g 3) (fun n z => z = (J (cntN (fun j => (plT g).testBit j && decide (kH g j < kH g i)) n), J n)) rfl (Nat.zero_le _) (by omega) ?_ ?_
  · intro n z hn hz
    subst hz
    have e : cntN (fun j => (plT g).testBit j && decide (kH g j < kH g i)) (n + 1) = cntN (fun j => (plT g).testBit j && decide (kH g j < kH g i)) n + (if (plT g).testBit n && decide (kH g n < kH g i) then 1 else 0) := rfl
    unfold st_P_orderHearings_15
    simp only [J_lit]
    rw [h.1, if_n (fun q => by have := (J_le (by omega) (by omega)).mp q; omega), hT, J_bit (by omega), P_before h hw hD hi hn, ob1_s, J_add, J_add, e]
    cases hx : (plT g).testBit n with
    | false =>
      rw [if_n (show ¬ J (if false = true then 1 else 0) = J 1 by decide), ok_s]
      exact Or.inl ⟨_, rfl, rfl⟩
    | true =>
      rw [if_p (show J (if true = true then 1 else 0) = J 1 from rfl)]
      by_cases q3 : kH g n < kH g i
      · rw [if_p q3, if_n n10, ok_s, decide_eq_true q3]
        exact Or.inl ⟨_, rfl, rfl⟩
      · rw [if_n q3, if_p rfl, ok_s, decide_eq_false q3]
        exact Or.inl ⟨_, rfl, rfl⟩
  · intro z hz
    subst hz
    unfold st_P_orderHearings_15
    simp only [J_lit]
    rw [h.1, if_p ((J_le (by omega) (by omega)).mpr (Nat.le_refl _)), ok_ir, hT, J_bit (by omega), J_add]
    cases hx : (plT g).testBit i with
    | false =>
      rw [if_n (show ¬ J (if false = true then 1 else 0) = J 1 by decide), ok_s]
      exact ⟨_, rfl, rfl⟩
    | true =>
      have hl := hpl_lt hi hx
      have hl2 := plN_le (g := g)
      rw [if_p (show J (if true = true then 1 else 0) = J 1 from rfl)]
      show ok (gd (inb (J (hpl g i)) 10) _) _
      rw [J_inb (by omega), gd_d (by omega), ok_bnd, ok_s]
      refine ⟨_, rfl, ?_⟩
      show Sum.inl (J (i + 1), wr d 278 (J (hpl g i)).toNatClampNeg (J i)) = _
      rw [J_nat (by omega)]
      rfl
theorem P_hear (h : brC d g) (hw : WF D g) (hD : D < 100000) (hT : d 277 1 = J (plT g)) : ok (f_P_orderHearings d) (fun d' => (∀ i, i < g 3 → (plT g).testBit i = true → d' 278 (hpl g i) = J i) ∧ ∀ k, k ≠ 278 → d' k = d k) := by
  have h10 := hw.nb
  unfold f_P_orderHearings f_P_orderHearings_2
  simp only [J_lit]
  refine iter_up 0 (g 3) (fun n z => ∃ d5, z = (J n, d5) ∧ (∀ i, i < n → (plT g).testBit i = true → d5 278 (hpl g i) = J i) ∧ ∀ k, k ≠ 278 → d5 k = d k) ⟨d, rfl, fun i hi => absurd hi (Nat.not_lt_zero i), fun _ _ => rfl⟩ (Nat.zero_le _) (by omega) ?_ ?_
  · intro n z hn hz
    obtain ⟨d5, rfl, z1, z2⟩ := hz
    have h5 : brC d5 g := h.same (z2 16 (by decide)) (z2 19 (by decide)) (z2 20 (by decide))
    unfold st_P_orderHearings_2
    simp only [J_lit]
    rw [h5.1, if_n (fun q => by have := (J_le (by omega) (by omega)).mp q; omega), P_hear15 h5 hw hD (by rw [z2 277 (by decide)]; exact hT) hn, ok_s]
    cases hx : (plT g).testBit n with
    | false =>
      refine Or.inl ⟨_, rfl, d5, rfl, fun i hi hb => ?_, z2⟩
      rcases (by omega : i < n ∨ i = n) with u | rfl
      · exact z1 i u hb
      · rw [hx] at hb
        cases hb
    | true =>
      refine Or.inl ⟨_, rfl, wr d5 278 (hpl g n) (J n), rfl, fun i hi hb => ?_, fun k hk => by rw [wr_k hk]; exact z2 k hk⟩
      rw [wr_i]
      rcases (by omega : i < n ∨ i = n) with u | rfl
      · rw [if_n (fun t => by have := hpl_inj hw (by omega) hn hb hx t; omega)]
        exact z1 i u hb
      · rw [if_p rfl]
  · intro z hz
    obtain ⟨d5, rfl, z1, z2⟩ := hz
    unfold st_P_orderHearings_2
    simp only [J_lit]
    rw [z2 16 (by decide), h.1, if_p ((J_le (by omega) (by omega)).mpr (Nat.le_refl _)), ok_ir, ok_s]
    exact ⟨_, rfl, z1, z2⟩
theorem cnt_or (hi : i < n) (hb : x.testBit i = false) : cntN (x ||| 2 ^ i).testBit n = cntN x.testBit n + 1 := by
  have h1 := cntN_rem (q := (x ||| 2 ^ i).testBit) (k := i) (by rw [Nat.testBit_or, Nat.testBit_two_pow_self, Bool.or_true]) n
  rw [if_p hi] at h1
  rw [h1, cntN_congr (q := x.testBit) n (fun j _ => ?_)]
  rw [Nat.testBit_or, Nat.testBit_two_pow]
  by_cases q : i = j
  · rw [← q, hb, beq_self_eq_true, Bool.not_true, Bool.and_false]
  · rw [decide_eq_false q, Bool.or_false, beq_eq_false_iff_ne.mpr (fun t => q t.symm), Bool.not_false, Bool.and_true]
theorem P_make (hS : Sim d 2 g) (hw : WF D g) (hD : D < 100000) : ok (f_P_make (d 2 0) d) (fun d' => plC d' g ∧ ∀ k, k < 277 ∨ 281 ≤ k → d' k = d k) := by
  have h10 := hw.nb
  have hp := pow1024 hw
  have ed : d 2 0 = J (g 1) := hS.day
  unfold f_P_make
  simp only [J_lit]
  rw [ed, ok_ob1]
  refine ok_mono (P_findDue hS hw hD) (fun d5 h5 => ?_)
  rw [ok_ob1]
  have b5 : brC d5 g := hS.brC.same (h5.2 16 (by decide)) (h5.2 19 (by decide)) (h5.2 20 (by decide))
  refine ok_mono (P_visits b5 hw hD) (fun d6 h6 => ?_)
  have f6 : ∀ k, k ≠ 279 → k ≠ 280 → d6 k = d k := fun k h1 h2 => by rw [h6.2 k h1, h5.2 k h2]
  have c6 : duC d6 g := fun t ht => by rw [h6.2 280 (by decide)]; exact h5.1 t ht
  rw [ok_bnd, ok_bnd]
  unfold f_P_make_23
  refine iter_up 0 (g 3) (fun n z => ∃ d7, z = (J n, d7) ∧ d7 277 1 = J (grT g n) ∧ d7 277 0 = J (cntN (grT g n).testBit (g 3)) ∧ ∀ k, k ≠ 277 → d7 k = d6 k) ⟨_, rfl, by rw [wr_j (by decide), wr_s]; rfl, ?_, fun k hk => by rw [wr_k hk, wr_k hk]⟩ (Nat.zero_le _) (by omega) ?_ ?_
  · rw [wr_s, cnt_none (fun i _ => by rw [show grT g 0 = 0 from rfl, Nat.zero_testBit])]
  · intro n z hn hz
    obtain ⟨d7, rfl, z1, z2, z3⟩ := hz
    obtain ⟨i, hi, hri⟩ := rkD_ex hw hn
    have e16 : d7 16 0 = J (g 3) := by rw [z3 16 (by decide), h6.2 16 (by decide)]; exact b5.1
    have e9 : d7 279 n = J i := by rw [z3 279 (by decide), ← hri]; exact h6.1 i hi
    have hlt : grT g n < 2 ^ g 3 := grT_lt hw (by omega)
    have hpi : 2 ^ i < 2 ^ g 3 := Nat.pow_lt_pow_right (by decide) hi
    have hor : grT g n ||| 2 ^ i < 2 ^ g 3 := Nat.or_lt_two_pow hlt hpi
    have hc7 : duC d7 g := fun t ht => by rw [z3 280 (by decide)]; exact c6 t ht
    have hg := grT_step hw hi hri
    unfold st_P_make_23
    simp only [J_lit]
    rw [e16, if_n (fun q => by have := (J_le (by omega) (by omega)).mp q; omega), J_inb (by omega), gd_d (by omega), J_nat (by omega), e9, J_shl (by omega), z1, J_or, P_possible hc7 hw (by omega), ob1_s, J_add]
    by_cases q : psb g (grT g n ||| 2 ^ i) = true
    · rw [if_p q] at hg
      rw [if_p q, if_n n10, ok_bnd, ok_bnd, ok_s, wr_j (by decide), z2, J_add]
      have hbit : (grT g n).testBit i = false := by
        cases t : (grT g n).testBit i with
        | false => rfl
        | true => have := (grT_in hw n (by omega) i t).2; omega
      refine Or.inl ⟨_, rfl, _, rfl, ?_, ?_, fun k hk => by rw [wr_k hk, wr_k hk]; exact z3 k hk⟩
      · rw [wr_j (by decide), wr_s, hg]
      · rw [wr_s, hg, cnt_or hi hbit]
    · rw [if_n q] at hg
      rw [if_n q, if_p rfl, ok_s]
      exact Or.inl ⟨_, rfl, d7, rfl, by rw [hg]; exact z1, by rw [hg]; exact z2, z3⟩
  · intro z hz
    obtain ⟨d7, rfl, z1, z2, z3⟩ := hz
    have b7 : brC d7 g := b5.same (by rw [z3 16 (by decide), h6.2 16 (by decide)]) (by rw [z3 19 (by decide), h6.2 19 (by decide)]) (by rw [z3 20 (by decide), h6.2 20 (by decide)])
    unfold st_P_make_23
    simp only [J_lit]
    rw [b7.1, if_p ((J_le (by omega) (by omega)).mpr (Nat.le_refl _)), ok_ir, ok_ob1]
    refine ok_mono (P_hear b7 hw hD z1) (fun d8 h8 => ?_)
    rw [ok_s]
    refine ⟨_, rfl, ⟨by rw [h8.2 277 (by decide)]; exact z1, by rw [h8.2 277 (by decide)]; exact z2, h8.1⟩, fun k hk => ?_⟩
    rw [h8.2 k (by omega), z3 k (by omega), f6 k (by omega) (by omega)]
theorem PM_scr {d' : Dt} (h : ∀ k, k < 277 ∨ 281 ≤ k → d' k = d k) : scr d d' := fun k hk => h k (by omega)
theorem P_place (h : plC d g) (hw : WF D g) (hi : i < g 3) : f_P_placeOf (J i) d = some (if (plT g).testBit i then J (hpl g i) else -J 1) := by
  have h10 := hw.nb
  have hN := plN_le (g := g)
  obtain ⟨h1, h2, h3⟩ := h
  have cell : ∀ p, p < plN g → ∃ v, v < g 3 ∧ (plT g).testBit v = true ∧ hpl g v = p ∧ d 278 p = J v := fun p hp => by
    obtain ⟨v, v1, v2, v3⟩ := hpl_ex hw hp
    exact ⟨v, v1, v2, v3, by rw [← v3]; exact h3 v v1 v2⟩
  apply ok_eq
  unfold f_P_placeOf f_P_placeOf_2
  simp only [J_lit]
  cases hx : (plT g).testBit i with
  | true =>
    have hl := hpl_lt hi hx
    refine iter_up 0 (hpl g i) (fun n z => z = J n) rfl (Nat.zero_le _) (by omega) ?_ ?_
    · intro n z hn hz
      subst hz
      obtain ⟨v, v1, v2, v3, v4⟩ := cell n (by omega)
      unfold st_P_placeOf_2
      simp only [J_lit]
      rw [h2, if_n (fun q => by have := (J_le (by omega) (by omega)).mp q; omega), J_inb (by omega), gd_d (by omega), J_nat (by omega), v4, if_n (J_ne (fun t => by rw [t] at v3; omega) (by omega) (by omega)), ok_s, J_add]
      exact Or.inl ⟨_, rfl, rfl⟩
    · intro z hz
      subst hz
      unfold st_P_placeOf_2
      simp only [J_lit]
      rw [h2, if_n (fun q => by have := (J_le (by omega) (by omega)).mp q; omega), J_inb (by omega), gd_d (by omega), J_nat (by omega), h3 i hi hx, if_p rfl, ok_ir, ok_s]
      exact ⟨_, rfl, rfl⟩
  | false =>
    refine iter_up 0 (plN g) (fun n z => z = J n) rfl (Nat.zero_le _) (by omega) ?_ ?_
    · intro n z hn hz
      subst hz
      obtain ⟨v, v1, v2, v3, v4⟩ := cell n hn
      unfold st_P_placeOf_2
      simp only [J_lit]
      rw [h2, if_n (fun q => by have := (J_le (by omega) (by omega)).mp q; omega), J_inb (by omega), gd_d (by omega), J_nat (by omega), v4, if_n (J_ne (fun t => by rw [t, hx] at v2; cases v2) (by omega) (by omega)), ok_s, J_add]
      exact Or.inl ⟨_, rfl, rfl⟩
    · intro z hz
      subst hz
      unfold st_P_placeOf_2
      simp only [J_lit]
      rw [h2, if_p ((J_le (by omega) (by omega)).mpr (Nat.le_refl _)), ok_ir, ok_s]
      exact ⟨_, rfl, rfl⟩
theorem C_feesOf (h : brC d g) (hw : WF D g) : f_B_feesOf (J x) d = some (J (fsm g x.testBit (g 3))) := by
  have h10 := hw.nb
  apply ok_eq
  unfold f_B_feesOf f_B_feesOf_4
  simp only [J_lit]
  refine iter_up 0 (g 3) (fun n z => z = (J (fsm g x.testBit n), J n)) rfl (Nat.zero_le _) (by omega) ?_ ?_
  · intro n z hn hz
    subst hz
    have e : fsm g x.testBit (n + 1) = fsm g x.testBit n + (if x.testBit n then g (104 + 5 * n) else 0) := rfl
    unfold st_B_feesOf_4
    simp only [J_lit]
    rw [h.1, if_n (fun q => by have := (J_le (by omega) (by omega)).mp q; omega), J_bit (by omega), J_inb (by omega), gd_d (by omega), J_nat (by omega), (h.2 n hn).2, J_add, J_add, e]
    cases x.testBit n
    · rw [if_n (show ¬ J (if false = true then 1 else 0) = J 1 by decide), ok_s]
      exact Or.inl ⟨_, rfl, rfl⟩
    · rw [if_p (show J (if true = true then 1 else 0) = J 1 from rfl), ok_s]
      exact Or.inl ⟨_, rfl, rfl⟩
  · intro z hz
    subst hz
    unfold st_B_feesOf_4
    simp only [J_lit]
    rw [h.1, if_p ((J_le (by omega) (by omega)).mpr (Nat.le_refl _)), ok_ir, ok_s]
    exact ⟨_, rfl, rfl⟩
end PLAN2
