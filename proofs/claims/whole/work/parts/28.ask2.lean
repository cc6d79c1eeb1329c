/-! 28: the law's cases: more questions that read a cell -/
section ASK2
variable {D D' : Nat} {d d1 d2 : Dt} {g g' : Nat → Nat} {us us' : List (Nat → Nat)} {sv : Option (Nat → Nat)} {e f : Int32} {ln : Nat} {cs : Nat → Nat} {om : Nat} {os : Nat → Nat} {L i : Nat} {xs : Nat → Int32} {b : Bool}
theorem law_brightness (h : St D d g us sv e f ln cs om os) (hi : i + 5 ≤ L) (hL : L ≤ 2560) : ok (f_W_law_932 L xs (J i) d) (fun y => ∃ d', y = .inl (J i + 5, d') ∧ Inv D d') := by
  unfold f_W_law_932
  simp only [gdx1 hi hL]
  exact tail_i (P := Inv D) (P_brightness h)
theorem law_sentenceCount (h : St D d g us sv e f ln cs om os) (hi : i + 5 ≤ L) (hL : L ≤ 2560) : ok (f_W_law_1079 L xs (J i) d) (fun y => ∃ d', y = .inl (J i + 5, d') ∧ Inv D d') := by
  unfold f_W_law_1079
  simp only [gdx1 hi hL]
  exact tail_i (P := Inv D) (P_sentenceCount h)
theorem law_daysLeft (h : St D d g us sv e f ln cs om os) (hi : i + 5 ≤ L) (hL : L ≤ 2560) : ok (f_W_law_1135 L xs (J i) d) (fun y => ∃ d', y = .inl (J i + 5, d') ∧ Inv D d') := by
  unfold f_W_law_1135
  simp only [gdx1 hi hL]
  exact tail_i (P := Inv D) (P_daysLeft h)
theorem law_hasAdmitted (h : St D d g us sv e f ln cs om os) (hi : i + 5 ≤ L) (hL : L ≤ 2560) : ok (f_W_law_988 L xs (J i) d) (fun y => ∃ d', y = .inl (J i + 5, d') ∧ Inv D d') := by
  unfold f_W_law_988 f_W_law_1009 f_W_law_1036 f_W_law_1070
  simp only [gdx1 hi hL, gdx2 hi hL]
  by_cases hx : xs (J i + 2).toNatClampNeg = 0
  · simp only [if_p hx]
    exact tail_b (P_hasAdmitted h)
  · simp only [if_n hx]
    exact tail_b (P_hasAdmitted h)
/-- the days that a lantern still serves -/
def sums (g : Nat → Nat) (b : Nat) : Nat → Nat
  | 0 => 0
  | n + 1 => sums g b n + g (b + n)
def srv (g : Nat → Nat) (i : Nat) : Nat := sums g (16 + 11 * i) (g (15 + 11 * i))
theorem sums_le {g : Nat → Nat} {b m : Nat} : ∀ n, (∀ j, j < n → g (b + j) ≤ m) → sums g b n ≤ m * n := by
  intro n
  induction n with
  | zero => intro _; exact Nat.zero_le _
  | succ n ih =>
    intro h
    have := ih (fun j hj => h j (by omega))
    have := h n (by omega)
    show sums g b n + g (b + n) ≤ m * (n + 1)
    rw [Nat.mul_add]
    omega
theorem C_toServe {i : Nat} (hS : Sim d 2 g) (hw : WF D g) (hi : i < g 0) : f_L_daysToServe (J i) d = some (J (srv g i)) := by
  have h8 := hw.nl
  have hsc := hw.sc hi
  have e6 : d 6 i = J (g (15 + 11 * i)) := hS.sc hi
  have bd : ∀ n, n ≤ g (15 + 11 * i) → sums g (16 + 11 * i) n ≤ 9 * n := fun n hn => sums_le n (fun j hj => ((hw.2.1 i hi).2.2.2 j (by omega)).2)
  apply ok_eq
  unfold f_L_daysToServe f_L_daysToServe_4
  simp only [J_lit]
  refine iter_up 0 (g (15 + 11 * i)) (fun n s => s = (J (sums g (16 + 11 * i) n), J n)) rfl (by omega) (by omega) ?_ ?_
  · intro n s hn hs
    subst hs
    have e8 : d (8 + i) n = J (g (16 + 11 * i + n)) := hS.sen hi hn
    have b1 := bd n (by omega)
    have b2 := ((hw.2.1 i hi).2.2.2 n hn).2
    unfold st_L_daysToServe_4
    simp only [J_lit]
    rw [J_inb (by omega), gd_d (by omega), J_nat (by omega), e6, if_n (fun q => by have := (J_le (by omega) (by omega)).mp q; omega), gd_d (by omega), J_inb (by omega), gd_d (by omega), J_nat (by omega), e8, ok_s, J_add, J_add]
    exact Or.inl ⟨_, rfl, rfl⟩
  · intro s hs
    subst hs
    unfold st_L_daysToServe_4
    simp only [J_lit]
    rw [J_inb (by omega), gd_d (by omega), J_nat (by omega), e6, if_p ((J_le (by omega) (by omega)).mpr (Nat.le_refl _)), ok_ir, ok_s]
    exact ⟨_, rfl, rfl⟩
theorem M_toServe {i : Nat} (hr : rowN d 293 0 g) (hw : WF D g) (hi : i < g 0) : f_M_toServe (J i) d = some (J (srv g i)) := by
  have h8 := hw.nl
  have hsc := hw.sc hi
  have e6 : d 293 (13 + 11 * i + 2) = J (g (15 + 11 * i)) := by rw [hr.at (by omega), show 13 + 11 * i + 2 = 15 + 11 * i by omega]
  have bd : ∀ n, n ≤ g (15 + 11 * i) → sums g (16 + 11 * i) n ≤ 9 * n := fun n hn => sums_le n (fun j hj => ((hw.2.1 i hi).2.2.2 j (by omega)).2)
  apply ok_eq
  unfold f_M_toServe f_M_toServe_4
  simp only [J_lit]
  refine iter_up 0 (g (15 + 11 * i)) (fun n s => s = (J (sums g (16 + 11 * i) n), J n)) rfl (by omega) (by omega) ?_ ?_
  · intro n s hn hs
    subst hs
    have e8 : d 293 (13 + 11 * i + (3 + n)) = J (g (16 + 11 * i + n)) := by rw [hr.at (by omega), show 13 + 11 * i + (3 + n) = 16 + 11 * i + n by omega]
    have b1 := bd n (by omega)
    have b2 := ((hw.2.1 i hi).2.2.2 n hn).2
    unfold st_M_toServe_4
    simp only [J_lit]
    rw [M_of (by omega) (by omega), ob1_s, e6, if_n (fun q => by have := (J_le (by omega) (by omega)).mp q; omega), J_add, M_of (by omega) (by omega), ob1_s, e8, ok_s, J_add, J_add]
    exact Or.inl ⟨_, rfl, rfl⟩
  · intro s hs
    subst hs
    unfold st_M_toServe_4
    simp only [J_lit]
    rw [M_of (by omega) (by omega), ob1_s, e6, if_p ((J_le (by omega) (by omega)).mpr (Nat.le_refl _)), ok_ir, ok_s]
    exact ⟨_, rfl, rfl⟩
theorem P_daysUntilFree {x : Int32} (h : St D d g us sv e f ln cs om os) : ok (f_W_daysUntilFree x d) (Pr (fun d => f_M_daysUntilFree x d) D) := by
  have h8 := h.wf.nl
  unfold f_W_daysUntilFree f_C_daysUntilFree
  simp only [J_lit]
  by_cases q : isIn (g 0) x
  · rw [(C_checkL h.sim h8).1 q, ok_ocR, ok_ocU, ok_s, Sum.elim_inl]
    obtain ⟨i, hi, rfl⟩ := q
    rw [C_toServe h.sim h.wf hi, ob1_s, ok_s, Sum.elim_inl, ok_bnd, ok_s]
    refine pr_ans h (fun hp => ?_)
    unfold f_M_daysUntilFree
    simp only [J_lit]
    rw [(M_isNone hp.1 h8).1 ⟨i, hi, rfl⟩, ob2_s, if_p rfl, M_toServe (MO_code hp.1 hp.2.1 0).2.1 h.wf hi, ob1_s, ok_s]
    exact ⟨rfl, MO_code hp.1 hp.2.1 0⟩
  · rw [(C_checkL h.sim h8).2 q, ok_ocR, ok_ocU, ok_s, Sum.elim_inr, ok_s, Sum.elim_inr]
    show ok (if (1 : Nat) = 1 then some (J 1, d) else none) _
    rw [if_p rfl, ok_s]
    refine pr_fail h (Nat.le_refl D) 1 (by decide) (by decide) (fun hp => ?_)
    unfold f_M_daysUntilFree
    simp only [J_lit]
    rw [(M_isNone hp.1 h8).2 q, ob2_s, if_n n10, ok_s]
    exact MO_code hp.1 hp.2.1 1
theorem law_daysUntilFree (h : St D d g us sv e f ln cs om os) (hi : i + 5 ≤ L) (hL : L ≤ 2560) : ok (f_W_law_1191 L xs (J i) d) (fun y => ∃ d', y = .inl (J i + 5, d') ∧ Inv D d') := by
  unfold f_W_law_1191
  simp only [gdx1 hi hL]
  exact tail_i (P := Inv D) (P_daysUntilFree h)
/-- a cell of a brief, by its id -/
theorem P_ofB {x : Int32} {row col : Nat} (h : St D d g us sv e f ln cs om os) (hD : D < 100000) (hc : col < 5) (er : ∀ p, p < g 3 → d row p = J (g (101 + 5 * p + col))) : ok (ocR (ocR (f_C_checkedBrief x d) (fun r1 => gd (inb r1 10) <| some (.inl (d row r1.toNatClampNeg))) (fun et1 => some (.inr et1))) (fun r1 => bnd (wr d 300 0 r1) fun d3 => some (J 0, d3)) (fun et1 => if et1 = 3 then some (J 1, d) else none)) (Pr (fun d => ob2 (f_M_ofBrief x (J col) d) fun r1 d2 => some (r1, d2)) D) := by
  have hw := h.wf
  have h10 := hw.nb
  unfold f_C_checkedBrief
  simp only [J_lit]
  by_cases q : ∃ k, k < g 3 ∧ x = J (g (101 + 5 * k))
  · obtain ⟨k, hk, ek⟩ := q
    rw [(C_positionOf h.sim hw hD).1 k hk ek, ob1_s, if_n (fun q => (J_ne1 (by omega)).mp q), ok_ocR, ok_ocR, ok_s, Sum.elim_inl, J_inb (by omega), gd_d (by omega), J_nat (by omega), er k hk, ok_s, Sum.elim_inl, ok_bnd, ok_s]
    refine pr_ans h (fun hp => ?_)
    unfold f_M_ofBrief f_M_ofBrief_14
    simp only [J_lit]
    rw [(M_placeOf hp.1 hw hD).1 k hk ek, ob1_s, if_p ((J_le (by omega) (by omega)).mpr (Nat.zero_le _)), ok_ob2, M_f0]
    have h2 := MO_code hp.1 hp.2.1 0
    rw [(M_placeOf h2.2.1 hw hD).1 k hk ek, ob1_s, M_brief (by omega) hc, ob1_s, ok_s, ok_s]
    exact ⟨h2.2.1.at (j := 101 + 5 * k + col) (by omega), h2⟩
  · have q' : ∀ k, k < g 3 → x ≠ J (g (101 + 5 * k)) := fun k hk ek => q ⟨k, hk, ek⟩
    rw [(C_positionOf h.sim hw hD).2 q', ob1_s, if_p rfl, ok_ocR, ok_ocR, ok_s, Sum.elim_inr, ok_s, Sum.elim_inr]
    show ok (if (3 : Nat) = 3 then some (J 1, d) else none) _
    rw [if_p rfl, ok_s]
    refine pr_fail h (Nat.le_refl D) 1 (by decide) (by decide) (fun hp => ?_)
    unfold f_M_ofBrief f_M_ofBrief_14
    simp only [J_lit]
    rw [(M_placeOf hp.1 hw hD).2 q', ob1_s, if_n (show ¬ J 0 ≤ -J 1 by decide), ok_ob2, M_f1 (by decide) (by decide), ok_s, ok_s]
    exact MO_code hp.1 hp.2.1 1
theorem law_lanternOf (h : St D d g us sv e f ln cs om os) (hi : i + 5 ≤ L) (hL : L ≤ 2560) (hD : D < 100000) : ok (f_W_law_1316 L xs (J i) d) (fun y => ∃ d', y = .inl (J i + 5, d') ∧ Inv D d') := by
  unfold f_W_law_1316
  simp only [gdx1 hi hL]
  exact tail_i (P := Inv D) (P_ofB (row := 18) (col := 1) h hD (by decide) (fun p hp => by rw [show 101 + 5 * p + 1 = 102 + 5 * p by omega]; exact h.sim.bag hp))
theorem law_lastDay (h : St D d g us sv e f ln cs om os) (hi : i + 5 ≤ L) (hL : L ≤ 2560) (hD : D < 100000) : ok (f_W_law_1372 L xs (J i) d) (fun y => ∃ d', y = .inl (J i + 5, d') ∧ Inv D d') := by
  unfold f_W_law_1372
  simp only [gdx1 hi hL]
  exact tail_i (P := Inv D) (P_ofB (row := 19) (col := 2) h hD (by decide) (fun p hp => by rw [show 101 + 5 * p + 2 = 103 + 5 * p by omega]; exact h.sim.bld hp))
theorem law_fee (h : St D d g us sv e f ln cs om os) (hi : i + 5 ≤ L) (hL : L ≤ 2560) (hD : D < 100000) : ok (f_W_law_1428 L xs (J i) d) (fun y => ∃ d', y = .inl (J i + 5, d') ∧ Inv D d') := by
  unfold f_W_law_1428
  simp only [gdx1 hi hL]
  exact tail_i (P := Inv D) (P_ofB (row := 20) (col := 3) h hD (by decide) (fun p hp => by rw [show 101 + 5 * p + 3 = 104 + 5 * p by omega]; exact h.sim.bfe hp))
theorem law_severity (h : St D d g us sv e f ln cs om os) (hi : i + 5 ≤ L) (hL : L ≤ 2560) (hD : D < 100000) : ok (f_W_law_1484 L xs (J i) d) (fun y => ∃ d', y = .inl (J i + 5, d') ∧ Inv D d') := by
  unfold f_W_law_1484
  simp only [gdx1 hi hL]
  exact tail_i (P := Inv D) (P_ofB (row := 21) (col := 4) h hD (by decide) (fun p hp => by rw [show 101 + 5 * p + 4 = 105 + 5 * p by omega]; exact h.sim.bsv hp))
theorem P_briefAt {x : Int32} (h : St D d g us sv e f ln cs om os) : ok (f_W_briefAt x d) (Pr (fun d => f_M_briefAt x d) D) := by
  have hw := h.wf
  have h10 := hw.nb
  have e16 : d 16 0 = J (g 3) := h.sim.nb
  unfold f_W_briefAt f_C_briefAt f_C_briefAt_18
  simp only [J_lit]
  rw [e16]
  by_cases q : isIn (g 3) x
  · obtain ⟨k, hk, rfl⟩ := q
    have e17 : d 17 k = J (g (101 + 5 * k)) := h.sim.bid hk
    rw [if_n (J_neg (by omega)), if_p ((J_lt (by omega) (by omega)).mpr hk), J_inb (by omega), gd_d (by omega), J_nat (by omega), e17, ok_ocR, ok_s, Sum.elim_inl, ok_bnd, ok_s]
    refine pr_ans h (fun hp => ?_)
    unfold f_M_briefAt f_M_briefAt_22
    simp only [J_lit]
    rw [hp.1.at (j := 3) (by decide), (M_in1 (by omega)).1 ⟨k, hk, rfl⟩, ob1_s, if_n n10, M_f0, M_brief (by omega) (by decide), ob1_s, ok_s]
    have h2 := MO_code hp.1 hp.2.1 0
    exact ⟨h2.2.1.at (j := 101 + 5 * k) (by omega), h2⟩
  · have ex : (if x < J 0 then some (Sum.inr 3) else if x < J (g 3) then gd (inb x 10) <| some (.inl (d 17 x.toNatClampNeg)) else some (Sum.inr 3) : Option (Int32 ⊕ Nat)) = some (.inr 3) := by
      by_cases q1 : x < J 0
      · rw [if_p q1]
      rw [if_n q1, if_n]
      intro q2
      rcases J_cases x with hx | ⟨k, hk, rfl⟩
      · exact q1 hx
      · exact q ⟨k, (J_lt hk (by omega)).mp q2, rfl⟩
    rw [ex, ok_ocR, ok_s, Sum.elim_inr]
    show ok (if (3 : Nat) = 3 then some (J 1, d) else none) _
    rw [if_p rfl, ok_s]
    refine pr_fail h (Nat.le_refl D) 1 (by decide) (by decide) (fun hp => ?_)
    unfold f_M_briefAt f_M_briefAt_22
    simp only [J_lit]
    rw [hp.1.at (j := 3) (by decide), (M_in1 (by omega)).2 q, ob1_s, if_p rfl, M_f1 (by decide) (by decide), ok_s]
    exact MO_code hp.1 hp.2.1 1
theorem law_briefAt (h : St D d g us sv e f ln cs om os) (hi : i + 5 ≤ L) (hL : L ≤ 2560) : ok (f_W_law_1260 L xs (J i) d) (fun y => ∃ d', y = .inl (J i + 5, d') ∧ Inv D d') := by
  unfold f_W_law_1260
  simp only [gdx1 hi hL]
  exact tail_i (P := Inv D) (P_briefAt h)
theorem P_firstOf {x : Int32} (h : St D d g us sv e f ln cs om os) : ok (f_W_firstOf x d) (Pr (fun d => f_M_firstOf x d) D) := by
  have h12 := h.wf.ns
  unfold f_W_firstOf f_C_firstOf
  simp only [J_lit]
  by_cases q : isIn (g 4) x
  · rw [(C_checkT h.sim h12).1 q, ok_ocR, ok_ocU, ok_s, Sum.elim_inl]
    obtain ⟨k, hk, rfl⟩ := q
    have e4 : d 23 k = J (g (151 + 3 * k)) := h.sim.sfi hk
    rw [J_inb (by omega), gd_d (by omega), J_nat (by omega), ok_s, Sum.elim_inl, ok_bnd, ok_s, e4]
    refine pr_ans h (fun hp => ?_)
    unfold f_M_firstOf f_M_firstOf_14
    simp only [J_lit]
    rw [(M_isStatement hp.1 h12).1 ⟨k, hk, rfl⟩, ob1_s, if_n n10, M_f0, M_says (by omega) (by decide), ob1_s, ok_s]
    have h2 := MO_code hp.1 hp.2.1 0
    exact ⟨h2.2.1.at (j := 151 + 3 * k) (by omega), h2⟩
  · rw [(C_checkT h.sim h12).2 q, ok_ocR, ok_ocU, ok_s, Sum.elim_inr, ok_s, Sum.elim_inr]
    show ok (if (1 : Nat) = 1 then some (J 1, d) else none) _
    rw [if_p rfl, ok_s]
    refine pr_fail h (Nat.le_refl D) 1 (by decide) (by decide) (fun hp => ?_)
    unfold f_M_firstOf f_M_firstOf_14
    simp only [J_lit]
    rw [(M_isStatement hp.1 h12).2 q, ob1_s, if_p rfl, M_f1 (by decide) (by decide), ok_s]
    exact MO_code hp.1 hp.2.1 1
theorem P_secondOf {x : Int32} (h : St D d g us sv e f ln cs om os) : ok (f_W_secondOf x d) (Pr (fun d => f_M_secondOf x d) D) := by
  have h12 := h.wf.ns
  unfold f_W_secondOf f_C_secondOf
  simp only [J_lit]
  by_cases q : isIn (g 4) x
  · rw [(C_checkT h.sim h12).1 q, ok_ocR, ok_ocU, ok_s, Sum.elim_inl]
    obtain ⟨k, hk, rfl⟩ := q
    have e4 : d 24 k = J (g (152 + 3 * k)) := h.sim.sse hk
    rw [J_inb (by omega), gd_d (by omega), J_nat (by omega), ok_s, Sum.elim_inl, ok_bnd, ok_s, e4]
    refine pr_ans h (fun hp => ?_)
    unfold f_M_secondOf f_M_secondOf_14
    simp only [J_lit]
    rw [(M_isStatement hp.1 h12).1 ⟨k, hk, rfl⟩, ob1_s, if_n n10, M_f0, M_says (by omega) (by decide), ob1_s, ok_s]
    have h2 := MO_code hp.1 hp.2.1 0
    exact ⟨(h2.2.1.at (j := 151 + 3 * k + 1) (by omega)).trans (by rw [show 151 + 3 * k + 1 = 152 + 3 * k by omega]), h2⟩
  · rw [(C_checkT h.sim h12).2 q, ok_ocR, ok_ocU, ok_s, Sum.elim_inr, ok_s, Sum.elim_inr]
    show ok (if (1 : Nat) = 1 then some (J 1, d) else none) _
    rw [if_p rfl, ok_s]
    refine pr_fail h (Nat.le_refl D) 1 (by decide) (by decide) (fun hp => ?_)
    unfold f_M_secondOf f_M_secondOf_14
    simp only [J_lit]
    rw [(M_isStatement hp.1 h12).2 q, ob1_s, if_p rfl, M_f1 (by decide) (by decide), ok_s]
    exact MO_code hp.1 hp.2.1 1
theorem P_isTogether {x : Int32} (h : St D d g us sv e f ln cs om os) : ok (f_W_isTogether x d) (PrB (fun d => f_M_isTogether x d) D) := by
  have h12 := h.wf.ns
  unfold f_W_isTogether f_C_isTogether
  simp only [J_lit]
  by_cases q : isIn (g 4) x
  · rw [(C_checkT h.sim h12).1 q, ok_ocR, ok_ocU, ok_s, Sum.elim_inl]
    obtain ⟨k, hk, rfl⟩ := q
    have e4 : d 25 k = J (g (153 + 3 * k)) := h.sim.sto hk
    have ht : g (153 + 3 * k) ≤ 1 := (h.wf.2.2.2.2 k hk).2.2.2
    rw [J_inb (by omega), gd_d (by omega), J_nat (by omega), e4, nar01 ht]
    show ok (some (Sum.inl (J (g (153 + 3 * k))))) _
    rw [ok_s, Sum.elim_inl]
    have fin : ∀ t, t = g (153 + 3 * k) → PrB (fun d => f_M_isTogether (J k) d) D (J 0, wr d 300 0 (J t)) := by
      intro t ht2
      refine prb_ans (by omega) h (fun hp => ?_)
      unfold f_M_isTogether f_M_isTogether_14
      simp only [J_lit]
      have h2 := MO_code hp.1 hp.2.1 0
      rw [(M_isStatement hp.1 h12).1 ⟨k, hk, rfl⟩, ob1_s, if_n n10, M_f0, M_says (by omega) (by decide), ob1_s, h2.2.1.at (by omega), show 151 + 3 * k + 2 = 153 + 3 * k by omega, ← ht2]
      by_cases q1 : t = 1
      · rw [if_p (by rw [q1]), ok_s]
        exact ⟨by rw [q1], h2⟩
      · rw [if_n (J_ne q1 (by omega) (by decide)), ok_s]
        exact ⟨by rw [show t = 0 by omega], h2⟩
    by_cases q0 : g (153 + 3 * k) = 0
    · rw [q0, if_p rfl, ok_bnd, ok_s]
      exact fin 0 q0.symm
    · rw [if_n (J_ne q0 (by omega) (by decide)), ok_bnd, ok_s]
      exact fin 1 (by omega)
  · rw [(C_checkT h.sim h12).2 q, ok_ocR, ok_ocU, ok_s, Sum.elim_inr, ok_s, Sum.elim_inr]
    show ok (if (1 : Nat) = 1 then some (J 1, d) else none) _
    rw [if_p rfl, ok_s]
    refine prb_fail h (Nat.le_refl D) 1 (by decide) (by decide) (fun hp => ?_)
    unfold f_M_isTogether f_M_isTogether_14
    simp only [J_lit]
    rw [(M_isStatement hp.1 h12).2 q, ob1_s, if_p rfl, M_f1 (by decide) (by decide), ok_s]
    exact MO_code hp.1 hp.2.1 1
theorem law_firstOf (h : St D d g us sv e f ln cs om os) (hi : i + 5 ≤ L) (hL : L ≤ 2560) : ok (f_W_law_1698 L xs (J i) d) (fun y => ∃ d', y = .inl (J i + 5, d') ∧ Inv D d') := by
  unfold f_W_law_1698
  simp only [gdx1 hi hL]
  exact tail_i (P := Inv D) (P_firstOf h)
theorem law_secondOf (h : St D d g us sv e f ln cs om os) (hi : i + 5 ≤ L) (hL : L ≤ 2560) : ok (f_W_law_1754 L xs (J i) d) (fun y => ∃ d', y = .inl (J i + 5, d') ∧ Inv D d') := by
  unfold f_W_law_1754
  simp only [gdx1 hi hL]
  exact tail_i (P := Inv D) (P_secondOf h)
theorem law_isTogether (h : St D d g us sv e f ln cs om os) (hi : i + 5 ≤ L) (hL : L ≤ 2560) : ok (f_W_law_1810 L xs (J i) d) (fun y => ∃ d', y = .inl (J i + 5, d') ∧ Inv D d') := by
  unfold f_W_law_1810 f_W_law_1864
  simp only [gdx1 hi hL]
  exact tail_b (P_isTogether h)
end ASK2
