/-! 16: the reference: dropping, pardon, questions -/
def dropG (g : Nat → Nat) (p : Nat) : Nat → Nat := fun q => if q = 4 then g 4 - 1 else if 151 + 3 * p ≤ q ∧ q < 151 + 3 * (g 4 - 1) then g (q + 3) else if 151 + 3 * (g 4 - 1) ≤ q ∧ q < 154 + 3 * (g 4 - 1) then 0 else g q
theorem M_dropStatement {d : Dt} {us : List (Nat → Nat)} {g : Nat → Nat} {b : Bool} {x : Int32} (hp : MP d us g b) (h12 : g 4 ≤ 12) : (¬ isIn (g 4) x → ok (f_M_dropStatement x d) (fun z => MO d z.2 us g 1)) ∧ ∀ p, p < g 4 → x = J p → ok (f_M_dropStatement x d) (fun z => z.1 = J (g 4 - 1) ∧ MO d z.2 (pw b us g) (dropG g p) 0) := by
  obtain ⟨hr, hk, hl, hw⟩ := hp
  unfold f_M_dropStatement f_M_dropStatement_14
  simp only [J_lit]
  refine ⟨fun q => ?_, fun p hp q => ?_⟩
  · rw [(M_isStatement hr h12).2 q, ob1_s, if_p rfl, M_f1 (by decide) (by decide), ok_s]
    exact MO_code hr hk 1
  · rw [(M_isStatement hr h12).1 ⟨p, hp, q⟩, ob1_s, if_n (J_ne (by decide) (by decide) (by decide)), q, M_f0, ok_ob1]
    refine ok_mono ((MO_code hr hk 0).kp hl hw) (fun d3 h => ?_)
    rw [h.at (j := 4) (by decide), J_sub (by omega), J_mul, J_add]
    have h1 := MO_upd h 4 (g 4 - 1)
    generalize wr d3 293 4 (J (g 4 - 1)) = d4 at h1 ⊢
    unfold f_M_dropStatement_48
    rw [ok_bnd]
    refine iter_up (151 + 3 * p) (151 + 3 * (g 4 - 1)) (fun i s => ∃ d5, s = (J i, d5) ∧ 151 + 3 * p ≤ i ∧ MO d d5 (pw b us g) (fun q => if q = 4 then g 4 - 1 else if 151 + 3 * p ≤ q ∧ q < i then g (q + 3) else g q) 0) ⟨d4, rfl, Nat.le_refl _, ?_⟩ (by omega) (by omega) ?_ ?_
    · refine MO_eq h1 (fun q hq => ?_)
      unfold updG
      repeat' split
      all_goals omega
    · intro i s hi hs
      obtain ⟨d5, rfl, hip, h5⟩ := hs
      show ok (st_M_dropStatement_48 (J i) d5) _
      unfold st_M_dropStatement_48
      simp only [J_lit]
      have e3 := h5.at (j := 4) (by decide)
      rw [if_p rfl] at e3
      have e5 := h5.at (j := i + 3) (by omega)
      rw [if_n (by omega), if_n (by omega)] at e5
      simp (disch := omega) only [ite_true, ite_false, J_lit, J_add, J_mul, J_nat, J_inb, J_le, J_lt, J_inj, J_sub, J_div, gd_d, if_p, if_n, ob1_s, ob2_s, ir_s, e3, e5]
      (rw [ok_bnd]; have h6 := MO_upd h5 (i) (g (i + 3)); generalize wr d5 293 (i) (J (g (i + 3))) = d6 at h6 ⊢)
      rw [ok_s]
      refine Or.inl ⟨_, rfl, _, rfl, by omega, MO_eq h6 (fun q hq => ?_)⟩
      unfold updG
      dsimp only
      by_cases hq2 : q = i
      · subst hq2
        rw [if_p rfl, if_n (by omega), if_p (by omega)]
      · repeat' split
        all_goals omega
    · intro s hs
      obtain ⟨d5, rfl, -, h5⟩ := hs
      show ok (st_M_dropStatement_48 (J _) d5) _
      unfold st_M_dropStatement_48
      have e3 := h5.at (j := 4) (by decide)
      rw [if_p rfl] at e3
      simp only [J_lit]
      simp (disch := omega) only [ite_true, ite_false, J_lit, J_add, J_mul, J_nat, J_inb, J_le, J_lt, J_inj, J_sub, J_div, gd_d, if_p, if_n, ob1_s, ob2_s, ir_s, e3, ok_ir]
      unfold f_M_dropStatement_86
      refine iter_up 0 3 (fun i s => ∃ d6, s = (J i, d6) ∧ MO d d6 (pw b us g) (fun q => if q = 4 then g 4 - 1 else if 151 + 3 * p ≤ q ∧ q < 151 + 3 * (g 4 - 1) then g (q + 3) else if 151 + 3 * (g 4 - 1) ≤ q ∧ q < 151 + 3 * (g 4 - 1) + i then 0 else g q) 0) ⟨d5, rfl, ?_⟩ (by omega) (by omega) ?_ ?_
      · refine MO_eq h5 (fun q hq => ?_)
        repeat' split
        all_goals omega
      · intro i s hi hs
        obtain ⟨d6, rfl, h6⟩ := hs
        show ok (st_M_dropStatement_86 (J i) d6) _
        unfold st_M_dropStatement_86
        have e3 := h6.at (j := 4) (by decide)
        rw [if_p rfl] at e3
        simp only [J_lit]
        simp (disch := omega) only [ite_true, ite_false, J_lit, J_add, J_mul, J_nat, J_inb, J_le, J_lt, J_inj, J_sub, J_div, gd_d, if_p, if_n, ob1_s, ob2_s, ir_s, e3]
        (rw [ok_bnd]; have h7 := MO_upd h6 (151 + 3 * (g 4 - 1) + i) (0); generalize wr d6 293 (151 + 3 * (g 4 - 1) + i) (J (0)) = d7 at h7 ⊢)
        rw [ok_s]
        refine Or.inl ⟨_, rfl, _, rfl, MO_eq h7 (fun q hq => ?_)⟩
        unfold updG
        dsimp only
        repeat' split
        all_goals omega
      · intro s hs
        obtain ⟨d6, rfl, h6⟩ := hs
        show ok (st_M_dropStatement_86 (J 3) d6) _
        unfold st_M_dropStatement_86
        have e3 := h6.at (j := 4) (by decide)
        rw [if_p rfl] at e3
        simp only [J_lit]
        simp (disch := omega) only [ite_true, ite_false, J_lit, J_add, J_mul, J_nat, J_inb, J_le, J_lt, J_inj, J_sub, J_div, gd_d, if_p, if_n, ob1_s, ob2_s, ir_s, ok_ir, ok_s, e3]
        refine ⟨_, rfl, _, rfl, rfl, MO_eq h6 (fun q hq => ?_)⟩
        unfold dropG
        repeat' split
        all_goals omega
def endsG (g : Nat → Nat) (i : Nat) : Nat → Nat := fun q => if q = 15 + 11 * i then g (15 + 11 * i) - 1 else if 16 + 11 * i ≤ q ∧ q < 16 + 11 * i + (g (15 + 11 * i) - 1) then g (q + 1) else if q = 16 + 11 * i + (g (15 + 11 * i) - 1) then 0 else g q
theorem M_ends {d d3 : Dt} {us : List (Nat → Nat)} {g : Nat → Nat} {c i : Nat} (h : MO d d3 us g c) (hi : i < 8) (h8 : g (15 + 11 * i) ≤ 8) (h1 : 1 ≤ g (15 + 11 * i)) : ok (f_M_ends (J i) d3) (fun d' => MO d d' us (endsG g i) c) := by
  unfold f_M_ends
  simp only [J_lit]
  have e0 := h.at (j := 13 + 11 * i + 2) (by omega)
  rw [M_of (by omega) (by omega), ob1_s, e0, show 13 + 11 * i + 2 = 15 + 11 * i by omega, J_sub h1]
  unfold f_M_ends_11
  refine iter_up 0 (g (15 + 11 * i) - 1) (fun k s => ∃ d5, s = (J k, d5) ∧ MO d d5 us (fun q => if 16 + 11 * i ≤ q ∧ q < 16 + 11 * i + k then g (q + 1) else g q) c) ⟨d3, rfl, ?_⟩ (by omega) (by omega) ?_ ?_
  · refine MO_eq h (fun q hq => ?_)
    rw [if_n (by omega)]
  · intro k s hk hs
    obtain ⟨d5, rfl, h5⟩ := hs
    show ok (st_M_ends_11 (J i) (J (g (15 + 11 * i) - 1)) (J k) d5) _
    unfold st_M_ends_11
    simp only [J_lit]
    have e5 := h5.at (j := 13 + 11 * i + (3 + k + 1)) (by omega)
    rw [if_n (by omega)] at e5
    simp (disch := omega) only [ite_true, ite_false, J_lit, J_add, J_mul, J_nat, J_inb, J_le, J_lt, J_inj, J_sub, J_div, gd_d, if_p, if_n, ob1_s, ob2_s, ir_s, M_of, M_lays, e5, ok_s]
    refine Or.inl ⟨_, rfl, _, rfl, MO_eq (MO_upd h5 (13 + 11 * i + (3 + k)) (g (13 + 11 * i + (3 + k + 1)))) (fun q hq => ?_)⟩
    unfold updG
    dsimp only
    by_cases hq2 : q = 13 + 11 * i + (3 + k)
    · subst hq2
      rw [if_p rfl, if_p (by omega)]
      congr 1
    · repeat' split
      all_goals omega
  · intro s hs
    obtain ⟨d5, rfl, h5⟩ := hs
    show ok (st_M_ends_11 (J i) (J (g (15 + 11 * i) - 1)) (J (g (15 + 11 * i) - 1)) d5) _
    unfold st_M_ends_11
    simp only [J_lit]
    simp (disch := omega) only [ite_true, ite_false, J_lit, J_add, J_mul, J_nat, J_inb, J_le, J_lt, J_inj, J_sub, J_div, gd_d, if_p, if_n, ob1_s, ob2_s, ir_s, M_lays, ok_s, ok_ir]
    refine ⟨_, rfl, MO_eq (MO_upd (MO_upd h5 (13 + 11 * i + (3 + (g (15 + 11 * i) - 1))) 0) (13 + 11 * i + 2) (g (15 + 11 * i) - 1)) (fun q hq => ?_)⟩
    unfold updG endsG
    dsimp only
    repeat' split
    all_goals omega
theorem M_pardon {d : Dt} {us : List (Nat → Nat)} {g : Nat → Nat} {b : Bool} {x : Int32} {D : Nat} (hp : MP d us g b) (hwf : WF D g) : (¬ isIn (g 0) x → ok (f_M_pardon x d) (fun z => MO d z.2 us g 1)) ∧ ∀ i, i < g 0 → x = J i → (g (15 + 11 * i) = 0 → ok (f_M_pardon x d) (fun z => MO d z.2 us g 2)) ∧ (g (15 + 11 * i) ≠ 0 → ok (f_M_pardon x d) (fun z => z.1 = J (g (16 + 11 * i)) ∧ MO d z.2 (pw b us g) (endsG g i) 0)) := by
  obtain ⟨hr, hk, hl, hw⟩ := hp
  have h8 := hwf.nl
  unfold f_M_pardon f_M_pardon_27
  simp only [J_lit]
  refine ⟨fun q => ?_, fun i hi q => ?_⟩
  · rw [(M_isLantern hr h8).2 q, ob1_s, if_p rfl, M_f1 (by decide) (by decide), ok_s]
    exact MO_code hr hk 1
  · rw [(M_isLantern hr h8).1 ⟨i, hi, q⟩, ob1_s, if_n (J_ne (by decide) (by decide) (by decide)), q]
    have hg := hwf.sc hi
    rw [M_of (by omega) (by omega), ob1_s, hr.at (by omega), show 13 + 11 * i + 2 = 15 + 11 * i by omega]
    refine ⟨fun h0 => ?_, fun h0 => ?_⟩
    · rw [h0, if_p rfl, M_f1 (by decide) (by decide), ok_s]
      exact MO_code hr hk 2
    · rw [if_n (J_ne h0 (by omega) (by decide)), M_f0, M_of (by omega) (by omega), ob1_s, ok_ob1]
      refine ok_mono ((MO_code hr hk 0).kp hl hw) (fun d3 h3 => ?_)
      rw [ok_ob1, wr_k (by decide), hr.at (by omega), show 13 + 11 * i + 3 = 16 + 11 * i by omega]
      refine ok_mono (M_ends h3 (by omega) hg (by omega)) (fun d5 h5 => ?_)
      rw [ok_s]
      exact ⟨rfl, h5⟩
