/-! 26: the law's cases of the changes, closed -/
section CASE4
variable {D D' : Nat} {d d1 d2 : Dt} {g g' : Nat → Nat} {us us' : List (Nat → Nat)} {sv : Option (Nat → Nat)} {e f : Int32} {ln : Nat} {cs : Nat → Nat} {om : Nat} {os : Nat → Nat} {L i : Nat} {xs : Nat → Int32}
theorem gdx1 {X : Type} {k : Option X} (hi : i + 5 ≤ L) (hL : L ≤ 2560) : gd (inb (J i + 1) L) k = k := by
  show gd (inb (J i + J 1) L) k = k
  rw [J_add, J_inb (by omega), gd_d (by omega)]
theorem gdx2 {X : Type} {k : Option X} (hi : i + 5 ≤ L) (hL : L ≤ 2560) : gd (inb (J i + 2) L) k = k := by
  show gd (inb (J i + J 2) L) k = k
  rw [J_add, J_inb (by omega), gd_d (by omega)]
theorem gdx3 {X : Type} {k : Option X} (hi : i + 5 ≤ L) (hL : L ≤ 2560) : gd (inb (J i + 3) L) k = k := by
  show gd (inb (J i + J 3) L) k = k
  rw [J_add, J_inb (by omega), gd_d (by omega)]
theorem gdx4 {X : Type} {k : Option X} (hi : i + 5 ≤ L) (hL : L ≤ 2560) : gd (inb (J i + 4) L) k = k := by
  show gd (inb (J i + J 4) L) k = k
  rw [J_add, J_inb (by omega), gd_d (by omega)]
theorem tail_b {x5 : Int32} {W : Option (Int32 × Dt)} {M : Dt → Option (Int32 × Dt)} (h : ok W (PrB M D')) : ok (ob2 W fun r1 d2 => ob2 (M d2) fun r3 d4 => ob1 (f_M_thrown d4) fun r5 => if r5 = r1 then if r1 = 0 then if r3 = 0 then if (d4 300 0) = 0 then some (.inl ((x5 + 5), d4)) else ir (some ((0 : Int32), d4)) else if (d4 300 0) = 1 then some (.inl ((x5 + 5), d4)) else ir (some ((0 : Int32), d4)) else some (.inl ((x5 + 5), d4)) else ir (some (0, d4))) (fun y => ∃ d', y = .inl (x5 + 5, d') ∧ Inv D' d') := by
  rw [ok_ob2]
  refine ok_mono h (fun z hz => ?_)
  obtain ⟨c, hc, hz1, hz2⟩ := hz
  rw [ok_ob2]
  refine ok_mono hz2 (fun u hu => ?_)
  obtain ⟨u1, u2, u3⟩ := hu
  unfold f_M_thrown
  rw [ob1_s, u1, hz1, if_p rfl]
  by_cases h0 : c = 0
  · rw [h0, if_p (show J 0 = 0 from rfl)]
    obtain ⟨v1, v2⟩ := u2 h0
    rcases v1 with v1 | v1
    · rw [v2, v1, if_p (show J 0 = 0 from rfl), if_p (show J 0 = 0 from rfl), ok_s]
      exact ⟨_, rfl, u3⟩
    · rw [v2, v1, if_n (show ¬ J 1 = 0 from n10), if_p (show J 1 = 1 from rfl), ok_s]
      exact ⟨_, rfl, u3⟩
  · rw [if_n (show ¬ J c = 0 from J_ne h0 (by omega) (by decide)), ok_s]
    exact ⟨_, rfl, u3⟩
theorem law_file (h : St D d g us sv e f ln cs om os) (hi : i + 5 ≤ L) (hL : L ≤ 2560) (hD : D + 1 ≤ D') (hD2 : D' < 100000) : ok (f_W_law_340 L xs (J i) d) (fun y => ∃ d', y = .inl (J i + 5, d') ∧ Inv D' d') := by
  unfold f_W_law_340
  simp only [gdx1 hi hL, gdx2 hi hL, gdx3 hi hL, gdx4 hi hL]
  exact tail_i (P := Inv D') (P_file h hD hD2)
theorem law_withdraw (h : St D d g us sv e f ln cs om os) (hi : i + 5 ≤ L) (hL : L ≤ 2560) (hD : D < 100000) : ok (f_W_law_432 L xs (J i) d) (fun y => ∃ d', y = .inl (J i + 5, d') ∧ Inv D d') := by
  unfold f_W_law_432
  simp only [gdx1 hi hL]
  exact tail_i (P := Inv D) (P_withdraw h hD)
theorem law_makeStatement (h : St D d g us sv e f ln cs om os) (hi : i + 5 ≤ L) (hL : L ≤ 2560) : ok (f_W_law_488 L xs (J i) d) (fun y => ∃ d', y = .inl (J i + 5, d') ∧ Inv D d') := by
  unfold f_W_law_488 f_W_law_515 f_W_law_548
  simp only [gdx1 hi hL, gdx2 hi hL, gdx3 hi hL]
  by_cases hx : xs (J i + 3).toNatClampNeg = 0
  · simp only [if_p hx]
    exact tail_i (P := Inv D) (P_makeStatement (t := 0) (by decide) h)
  · simp only [if_n hx]
    exact tail_i (P := Inv D) (P_makeStatement (t := 1) (by decide) h)
theorem law_dropStatement (h : St D d g us sv e f ln cs om os) (hi : i + 5 ≤ L) (hL : L ≤ 2560) : ok (f_W_law_584 L xs (J i) d) (fun y => ∃ d', y = .inl (J i + 5, d') ∧ Inv D d') := by
  unfold f_W_law_584
  simp only [gdx1 hi hL]
  exact tail_i (P := Inv D) (P_dropStatement h)
theorem law_admit (h : St D d g us sv e f ln cs om os) (hi : i + 5 ≤ L) (hL : L ≤ 2560) : ok (f_W_law_640 L xs (J i) d) (fun y => ∃ d', y = .inl (J i + 5, d') ∧ Inv D d') := by
  unfold f_W_law_640 f_W_law_661 f_W_law_688 f_W_law_722
  simp only [gdx1 hi hL, gdx2 hi hL]
  by_cases hx : xs (J i + 2).toNatClampNeg = 0
  · simp only [if_p hx]
    exact tail_b (P_admit h)
  · simp only [if_n hx]
    exact tail_b (P_admit h)
theorem law_retract (h : St D d g us sv e f ln cs om os) (hi : i + 5 ≤ L) (hL : L ≤ 2560) : ok (f_W_law_731 L xs (J i) d) (fun y => ∃ d', y = .inl (J i + 5, d') ∧ Inv D d') := by
  unfold f_W_law_731 f_W_law_785
  simp only [gdx1 hi hL]
  exact tail_b (P_retract h)
theorem law_pardon (h : St D d g us sv e f ln cs om os) (hi : i + 5 ≤ L) (hL : L ≤ 2560) : ok (f_W_law_850 L xs (J i) d) (fun y => ∃ d', y = .inl (J i + 5, d') ∧ Inv D d') := by
  unfold f_W_law_850
  simp only [gdx1 hi hL]
  exact tail_i (P := Inv D) (P_pardon h)
end CASE4
