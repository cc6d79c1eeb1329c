/-! 15: the reference's removals -/
def goesG (g : Nat → Nat) (p : Nat) : Nat → Nat := fun q => if q = 3 then g 3 - 1 else if 101 + 5 * p ≤ q ∧ q < 101 + 5 * (g 3 - 1) then g (q + 5) else if 101 + 5 * (g 3 - 1) ≤ q ∧ q < 106 + 5 * (g 3 - 1) then 0 else g q
theorem M_goes {d d3 : Dt} {us : List (Nat → Nat)} {g : Nat → Nat} {c p : Nat} (h : MO d d3 us g c) (hp : p < g 3) (h10 : g 3 ≤ 10) : ok (f_M_goes (J p) d3) (fun d' => MO d d' us (goesG g p) c) := by
  unfold f_M_goes
  simp only [J_lit]
  rw [h.at (j := 3) (by decide), J_sub (by omega)]
  (rw [ok_bnd]; have h1 := MO_upd h (3) (g 3 - 1); generalize wr d3 293 (3) (J (g 3 - 1)) = d4 at h1 ⊢)
  rw [J_mul, J_add]
  unfold f_M_goes_17
  refine iter_up (101 + 5 * p) (101 + 5 * (g 3 - 1)) (fun i s => ∃ d5, s = (J i, d5) ∧ 101 + 5 * p ≤ i ∧ MO d d5 us (fun q => if q = 3 then g 3 - 1 else if 101 + 5 * p ≤ q ∧ q < i then g (q + 5) else g q) c) ⟨d4, rfl, Nat.le_refl _, ?_⟩ (by omega) (by omega) ?_ ?_
  · refine MO_eq h1 (fun q hq => ?_)
    unfold updG
    repeat' split
    all_goals omega
  · intro i s hi hs
    obtain ⟨d5, rfl, hip, h5⟩ := hs
    show ok (st_M_goes_17 (J i) d5) _
    unfold st_M_goes_17
    simp only [J_lit]
    have e3 := h5.at (j := 3) (by decide)
    rw [if_p rfl] at e3
    have e5 := h5.at (j := i + 5) (by omega)
    rw [if_n (by omega), if_n (by omega)] at e5
    simp (disch := omega) only [ite_true, ite_false, J_lit, J_add, J_mul, J_nat, J_inb, J_le, J_lt, J_inj, J_sub, J_div, gd_d, if_p, if_n, ob1_s, ob2_s, ir_s, e3, e5]
    (rw [ok_bnd]; have h6 := MO_upd h5 (i) (g (i + 5)); generalize wr d5 293 (i) (J (g (i + 5))) = d6 at h6 ⊢)
    rw [ok_s]
    refine Or.inl ⟨_, rfl, _, rfl, by omega, MO_eq h6 (fun q hq => ?_)⟩
    unfold updG
    dsimp only
    by_cases hq2 : q = i
    · subst hq2
      rw [if_p rfl, if_n (by omega), if_p (by omega)]
    · repeat' split
      all_goals omega
  · intro s hs
    obtain ⟨d5, rfl, -, h5⟩ := hs
    show ok (st_M_goes_17 (J _) d5) _
    unfold st_M_goes_17
    have e3 := h5.at (j := 3) (by decide)
    rw [if_p rfl] at e3
    simp only [J_lit]
    simp (disch := omega) only [ite_true, ite_false, J_lit, J_add, J_mul, J_nat, J_inb, J_le, J_lt, J_inj, J_sub, J_div, gd_d, if_p, if_n, ob1_s, ob2_s, ir_s, e3, ok_ir]
    unfold f_M_goes_54
    refine iter_up 0 5 (fun i s => ∃ d6, s = (J i, d6) ∧ MO d d6 us (fun q => if q = 3 then g 3 - 1 else if 101 + 5 * p ≤ q ∧ q < 101 + 5 * (g 3 - 1) then g (q + 5) else if 101 + 5 * (g 3 - 1) ≤ q ∧ q < 101 + 5 * (g 3 - 1) + i then 0 else g q) c) ⟨d5, rfl, ?_⟩ (by omega) (by omega) ?_ ?_
    · refine MO_eq h5 (fun q hq => ?_)
      repeat' split
      all_goals omega
    · intro i s hi hs
      obtain ⟨d6, rfl, h6⟩ := hs
      show ok (st_M_goes_54 (J i) d6) _
      unfold st_M_goes_54
      have e3 := h6.at (j := 3) (by decide)
      rw [if_p rfl] at e3
      simp only [J_lit]
      simp (disch := omega) only [ite_true, ite_false, J_lit, J_add, J_mul, J_nat, J_inb, J_le, J_lt, J_inj, J_sub, J_div, gd_d, if_p, if_n, ob1_s, ob2_s, ir_s, e3]
      (rw [ok_bnd]; have h7 := MO_upd h6 (101 + 5 * (g 3 - 1) + i) (0); generalize wr d6 293 (101 + 5 * (g 3 - 1) + i) (J (0)) = d7 at h7 ⊢)
      rw [ok_s]
      refine Or.inl ⟨_, rfl, _, rfl, MO_eq h7 (fun q hq => ?_)⟩
      unfold updG
      dsimp only
      repeat' split
      all_goals omega
    · intro s hs
      obtain ⟨d6, rfl, h6⟩ := hs
      show ok (st_M_goes_54 (J 5) d6) _
      unfold st_M_goes_54
      simp only [J_lit]
      simp (disch := omega) only [ite_true, ite_false, J_lit, J_add, J_mul, J_nat, J_inb, J_le, J_lt, J_inj, J_sub, J_div, gd_d, if_p, if_n, ob1_s, ob2_s, ir_s, ok_ir, ok_s]
      refine ⟨_, rfl, _, rfl, MO_eq h6 (fun q hq => ?_)⟩
      unfold goesG
      repeat' split
      all_goals omega
/-- the place of a brief by its id -/
theorem M_placeOf {d : Dt} {g : Nat → Nat} {D : Nat} {x : Int32} (hr : rowN d 293 0 g) (hw : WF D g) (hD : D < 100000) : (∀ k, k < g 3 → x = J (g (101 + 5 * k)) → f_M_placeOf x d = some (J k)) ∧ ((∀ k, k < g 3 → x ≠ J (g (101 + 5 * k))) → f_M_placeOf x d = some (-J 1)) := by
  have h10 := hw.nb
  have hid : ∀ k, k < g 3 → g (101 + 5 * k) < 100000 := fun k hk => by
    have := (hw.br hk).1
    have := hw.nx
    omega
  have body : ∀ i, i < g 3 → ∀ {Q}, (x = J (g (101 + 5 * i)) → Q (Sum.inr (J i))) → (x ≠ J (g (101 + 5 * i)) → Q (Sum.inl (J (i + 1)))) → ok (st_M_placeOf_2 x (J i) d) Q := by
    intro i hi Q h1 h2
    unfold st_M_placeOf_2
    simp only [J_lit]
    rw [hr.at (j := 3) (by decide), if_n (fun q => by have := (J_le (by omega) (by omega)).mp q; omega), M_brief (by omega) (by omega), ob1_s, hr.at (by omega)]
    by_cases e : J (g (101 + 5 * i + 0)) = x
    · rw [if_p e, ok_ir, ok_s]
      exact h1 e.symm
    · rw [if_n e, ok_s, J_add]
      exact h2 (fun q => e q.symm)
  unfold f_M_placeOf f_M_placeOf_2
  simp only [J_lit]
  refine ⟨fun k hk e => ?_, fun h => ?_⟩
  · apply ok_eq
    refine iter_up 0 k (fun i s => s = J i) rfl (by omega) (by omega) ?_ ?_
    · intro i s hi hs
      subst hs
      refine body i (by omega) (fun q => ?_) (fun q => ?_)
      · rw [e] at q
        have := (J_inj (by have := hid k hk; omega) (by have := hid i (by omega); omega)).mp q
        have := hw.ids hi hk
        omega
      · exact Or.inl ⟨_, rfl, rfl⟩
    · intro s hs
      subst hs
      refine body k hk (fun q => ⟨_, rfl, rfl⟩) (fun q => absurd e q)
  · apply ok_eq
    refine iter_up 0 (g 3) (fun i s => s = J i) rfl (by omega) (by omega) ?_ ?_
    · intro i s hi hs
      subst hs
      refine body i hi (fun q => absurd q (h i hi)) (fun q => Or.inl ⟨_, rfl, rfl⟩)
    · intro s hs
      subst hs
      unfold st_M_placeOf_2
      simp only [J_lit]
      rw [hr.at (j := 3) (by decide), if_p ((J_le (by omega) (by omega)).mpr (Nat.le_refl _)), ok_ir, ok_s]
      exact ⟨_, rfl, rfl⟩
def backG (g : Nat → Nat) (p : Nat) : Nat → Nat := goesG (updG g 5 (g 5 + g (104 + 5 * p) / 2)) p
theorem M_withdraw {d : Dt} {us : List (Nat → Nat)} {g : Nat → Nat} {b : Bool} {x : Int32} {D : Nat} (hp : MP d us g b) (hwf : WF D g) (hD : D < 100000) : ((∀ k, k < g 3 → x ≠ J (g (101 + 5 * k))) → ok (f_M_withdraw x d) (fun z => MO d z.2 us g 1)) ∧ ∀ k, k < g 3 → x = J (g (101 + 5 * k)) → ok (f_M_withdraw x d) (fun z => z.1 = J (g (104 + 5 * k) / 2) ∧ MO d z.2 (pw b us g) (backG g k) 0) := by
  obtain ⟨hr, hk, hl, hw⟩ := hp
  have h10 := hwf.nb
  have hpl := M_placeOf (x := x) hr hwf hD
  unfold f_M_withdraw f_M_withdraw_16
  simp only [J_lit]
  refine ⟨fun q => ?_, fun k hk3 e => ?_⟩
  · rw [hpl.2 q, ob1_s, if_n (show ¬ J 0 ≤ -J 1 by decide), M_f1 (by decide) (by decide), ok_s]
    exact MO_code hr hk 1
  · have hb := hwf.br hk3
    rw [hpl.1 k hk3 e, ob1_s, if_p ((J_le (by omega) (by omega)).mpr (Nat.zero_le _)), M_f0, ok_ob1]
    refine ok_mono ((MO_code hr hk 0).kp hl hw) (fun d3 h3 => ?_)
    rw [M_brief (by omega) (by omega), ob1_s, h3.at (j := 5) (by decide), h3.at (j := 101 + 5 * k + 3) (by omega), show 101 + 5 * k + 3 = 104 + 5 * k by omega, J_div (by omega) (by decide), J_add]
    (rw [ok_bnd]; have h4 := MO_upd h3 (5) (g 5 + g (104 + 5 * k) / 2); generalize wr d3 293 (5) (J (g 5 + g (104 + 5 * k) / 2)) = d4 at h4 ⊢)
    rw [ok_ob1]
    refine ok_mono (M_goes h4 (by rw [updG_n (by decide)]; exact hk3) (by rw [updG_n (by decide)]; exact h10)) (fun d5 h5 => ?_)
    rw [ok_s]
    exact ⟨rfl, h5⟩
