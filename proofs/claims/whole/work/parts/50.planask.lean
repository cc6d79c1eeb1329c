/-! 50: the law's cases: the plan's fees, its briefs, the days of hearings -/
section PASK
variable {D D' : Nat} {d d1 d2 : Dt} {g g' : Nat → Nat} {us us' : List (Nat → Nat)} {sv : Option (Nat → Nat)} {e f : Int32} {ln : Nat} {cs : Nat → Nat} {om : Nat} {os : Nat → Nat} {L i : Nat} {xs : Nat → Int32} {b : Bool} {n x k : Nat} {X : Nat → Bool}
theorem fsm_le (hw : WF D g) : ∀ n, n ≤ g 3 → fsm g X n ≤ 50 * n := by
  intro n
  induction n with
  | zero => intro _; exact Nat.le_refl _
  | succ n ih =>
    intro hn
    have h1 := ih (by omega)
    have h2 := (hw.br (show n < g 3 by omega)).2.2.2.2.2.1
    show fsm g X n + (if X n then g (104 + 5 * n) else 0) ≤ _
    cases X n
    · show fsm g X n + 0 ≤ _; omega
    · show fsm g X n + g (104 + 5 * n) ≤ _; omega
def plF (g : Nat → Nat) : Nat := fsm g (plT g).testBit (g 3)
theorem C_planFee (hS : Sim d 2 g) (hw : WF D g) (hD : D < 100000) : ok (f_C_planFee d) (fun z => z.1 = J (plF g) ∧ scr d z.2) := by
  unfold f_C_planFee
  rw [ok_ob1]
  refine ok_mono (P_make hS hw hD) (fun d3 h3 => ?_)
  have hs := PM_scr h3.2
  rw [h3.1.1, C_feesOf (hs.sim hS hw.wg).brC hw, ob1_s, ok_s]
  exact ⟨rfl, hs⟩
theorem M_planFee1 (hp : MP d us g b) (hw : WF D g) (hD : D < 100000) : ok (f_M_planFee d) (fun z => z.1 = J (plF g) ∧ MO d z.2 us g 0) := by
  have hm := MO_code hp.1 hp.2.1 0
  show ok (ob1 (f_M_plan (wr d 292 7 (J 0))) fun r2 => ob1 (f_M_feesOf r2 (wr d 292 7 (J 0))) fun r3 => some (r3, wr d 292 7 (J 0))) _
  rw [M_plan hm.2.1 hw hD, ob1_s, M_feesOf hm.2.1 hw, ob1_s, ok_s]
  exact ⟨rfl, hm⟩
theorem law_planFee (h : St D d g us sv e f ln cs om os) (hD : D < 100000) : ok (f_W_law_1659 L xs (J i) d) (fun y => ∃ d', y = .inl (J i + 5, d') ∧ Inv D d') :=
  tail_s (c := 0) h (C_planFee h.sim h.wf hD) (fun _ _ hp => M_planFee1 hp h.wf hD)
theorem C_planFeeBySets (hS : Sim d 2 g) (hw : WF D g) (hD : D < 100000) : ok (f_C_planFeeBySets d) (fun z => z.1 = J (plF g) ∧ scr d z.2) := by
  have h10 := hw.nb
  have hp := pow1024 hw
  have hp0 := Nat.two_pow_pos (g 3)
  have hF := fsm_le (X := (plT g).testBit) hw (g 3) (Nat.le_refl _)
  have hlt := plT_lt hw
  have ed : d 2 0 = J (g 1) := hS.day
  unfold f_C_planFeeBySets f_P_greatestFeeOfSets f_P_greatestFeeOfSets_11
  rw [ok_ob2, ok_ob1, ed]
  refine ok_mono (P_findDue hS hw hD) (fun d5 h5 => ?_)
  have hs : scr d d5 := fun k hk => h5.2 k (by omega)
  have b5 : brC d5 g := hS.brC.same (h5.2 16 (by decide)) (h5.2 19 (by decide)) (h5.2 20 (by decide))
  simp only [J_lit]
  refine iter_up 0 (2 ^ g 3) (fun n z => ∃ v, z = (J v, J n) ∧ v ≤ plF g ∧ ∀ k, k < n → psb g k = true → fsm g k.testBit (g 3) ≤ v) ⟨0, rfl, Nat.zero_le _, fun k hk => absurd hk (Nat.not_lt_zero k)⟩ (by omega) (by omega) ?_ ?_
  · intro n z hn hz
    obtain ⟨v, rfl, z1, z2⟩ := hz
    have hv : v ≤ 50 * g 3 := Nat.le_trans z1 hF
    have hk := fsm_le (X := n.testBit) hw (g 3) (Nat.le_refl _)
    unfold st_P_greatestFeeOfSets_11
    simp only [J_lit]
    rw [b5.1, J_shl (by omega), if_n (fun q => by have := (J_le (by omega) (by omega)).mp q; omega), P_possible h5.1 hw (by omega), ob1_s, C_feesOf b5 hw, ob1_s, mxI_J (by omega) (by omega), J_add]
    by_cases q : psb g n = true
    · have hb : fsm g n.testBit (g 3) ≤ plF g := plT_best hw q
      rw [if_p q, if_n n10, ok_s]
      refine Or.inl ⟨_, rfl, _, rfl, by omega, fun k hk1 hk2 => ?_⟩
      rcases (by omega : k < n ∨ k = n) with t | rfl
      · have := z2 k t hk2
        omega
      · omega
    · rw [if_n q, if_p rfl, ok_s]
      refine Or.inl ⟨_, rfl, v, rfl, z1, fun k hk1 hk2 => ?_⟩
      rcases (by omega : k < n ∨ k = n) with t | rfl
      · exact z2 k t hk2
      · exact absurd hk2 q
  · intro z hz
    obtain ⟨v, rfl, z1, z2⟩ := hz
    unfold st_P_greatestFeeOfSets_11
    simp only [J_lit]
    rw [b5.1, J_shl (by omega), if_p ((J_le (by omega) (by omega)).mpr (Nat.le_refl _)), ok_ir, ok_s]
    refine ⟨_, rfl, ?_⟩
    dsimp only
    rw [ok_s]
    have : plF g ≤ v := z2 (plT g) hlt (plT_ps hw)
    exact ⟨by rw [Nat.le_antisymm z1 this], hs⟩
theorem law_planFeeBySets (h : St D d g us sv e f ln cs om os) (hD : D < 100000) : ok (f_W_law_1672 L xs (J i) d) (fun y => ∃ d', y = .inl (J i + 5, d') ∧ Inv D d') :=
  tail_s (c := 0) h (C_planFeeBySets h.sim h.wf hD) (fun _ _ hp => M_planFee1 hp h.wf hD)
theorem P_isInPlan {x : Int32} (h : St D d g us sv e f ln cs om os) (hD : D < 100000) : ok (f_W_isInPlan x d) (PrB (fun d => f_M_isInPlan x d) D) := by
  have hw := h.wf
  have h10 := hw.nb
  unfold f_W_isInPlan f_C_isInPlan f_C_checkedBrief
  simp only [J_lit]
  by_cases q : ∃ k, k < g 3 ∧ x = J (g (101 + 5 * k))
  · obtain ⟨k, hk, ek⟩ := q
    rw [(C_positionOf h.sim hw hD).1 k hk ek, ob1_s, if_n (fun q => (J_ne1 (by omega)).mp q), ok_ocW, ok_ocR, ok_s, Sum.elim_inl, ok_ob1]
    refine ok_mono (P_make h.sim hw hD) (fun d3 h3 => ?_)
    have hs := PM_scr h3.2
    have hM : ∀ d1, MP d1 us g false → f_M_isInPlan x d1 = some (J (if (plT g).testBit k then 1 else 0), wr d1 292 7 (J 0)) := fun d1 hp => by
      have hm := MO_code hp.1 hp.2.1 0
      unfold f_M_isInPlan f_M_isInPlan_16
      simp only [J_lit]
      rw [(M_placeOf hp.1 hw hD).1 k hk ek, ob1_s, if_p ((J_le (by omega) (by omega)).mpr (Nat.zero_le _)), M_fails (by decide), ob2_s, if_p (show J (if (0 : Nat) = 0 then 0 else 1) = J 0 from rfl), M_plan hm.2.1 hw hD, ob1_s, J_bit (by omega)]
      cases (plT g).testBit k <;> rfl
    rw [P_place h3.1 hw hk, ob1_s]
    cases hx : (plT g).testBit k with
    | true =>
      rw [if_p rfl, if_n (fun q => (J_ne1 (by have : hpl g k ≤ g 3 := cntN_le _; omega)).mp q), ok_s, Sum.elim_inl]
      dsimp only
      rw [if_n n10, ok_bnd, ok_s]
      refine prb_sans (Or.inr rfl) h hs (fun hp => ?_)
      rw [hM _ hp, ok_s, hx]
      exact ⟨rfl, MO_code hp.1 hp.2.1 0⟩
    | false =>
      rw [if_n (p := false = true) (by decide), if_p rfl, ok_s, Sum.elim_inl]
      dsimp only
      rw [if_p rfl, ok_bnd, ok_s]
      refine prb_sans (Or.inl rfl) h hs (fun hp => ?_)
      rw [hM _ hp, ok_s, hx]
      exact ⟨rfl, MO_code hp.1 hp.2.1 0⟩
  · have q' : ∀ k, k < g 3 → x ≠ J (g (101 + 5 * k)) := fun k hk ek => q ⟨k, hk, ek⟩
    rw [(C_positionOf h.sim hw hD).2 q', ob1_s, if_p rfl, ok_ocW, ok_ocR, ok_s, Sum.elim_inr, ok_s, Sum.elim_inr]
    show ok (if (3 : Nat) = 3 then some (J 1, d) else none) _
    rw [if_p rfl, ok_s]
    refine prb_fail h (Nat.le_refl D) 1 (by decide) (by decide) (fun hp => ?_)
    unfold f_M_isInPlan f_M_isInPlan_16
    simp only [J_lit]
    rw [(M_placeOf hp.1 hw hD).2 q', ob1_s, if_n (by decide), M_fails (by decide), ob2_s, if_n (show ¬ J (if (1 : Nat) = 0 then 0 else 1) = J 0 by decide), ok_s]
    exact MO_code hp.1 hp.2.1 1
theorem law_isInPlan (h : St D d g us sv e f ln cs om os) (hi : i + 5 ≤ L) (hL : L ≤ 2560) (hD : D < 100000) : ok (f_W_law_1540 L xs (J i) d) (fun y => ∃ d', y = .inl (J i + 5, d') ∧ Inv D d') := by
  unfold f_W_law_1540 f_W_law_1594
  simp only [gdx1 hi hL]
  exact tail_b (P_isInPlan h hD)
theorem M_hday40 (hr : rowN d 293 0 g) (hw : WF D g) (hD : D < 100000) (hk : k < g 3) (hT : (plT g).testBit k = true) : f_M_hearingDay_40 (J k) (J (plT g)) (J 0) d = some (J (g 1 + 1 + hpl g k), d) := by
  have h10 := hw.nb
  have e1 : d 293 1 = J (g 1) := hr.at (by decide)
  have hl := hpl_lt hk hT
  have hl2 := plN_le (g := g)
  apply ok_eq
  unfold f_M_hearingDay_40
  refine iter_up 0 (hpl g k) (fun n z => z = J n) rfl (Nat.zero_le _) (by omega) ?_ ?_
  · intro n z hn hz
    subst hz
    obtain ⟨v, v1, v2, v3⟩ := hpl_ex (g := g) hw (show n < plN g by omega)
    unfold st_M_hearingDay_40
    simp only [J_lit]
    rw [← v3, M_hearing hr hw hD v1 v2, ob1_s, if_n (J_ne (fun t => by rw [t] at v3; omega) (by omega) (by omega)), ok_s, J_add]
    exact Or.inl ⟨_, rfl, rfl⟩
  · intro z hz
    subst hz
    unfold st_M_hearingDay_40
    simp only [J_lit]
    rw [M_hearing hr hw hD hk hT, ob1_s, if_p rfl, ok_ir, ok_s, e1, J_add, J_add]
    exact ⟨_, rfl, rfl⟩
theorem P_hearingDay {x : Int32} (h : St D d g us sv e f ln cs om os) (hD : D < 100000) : ok (f_W_hearingDay x d) (Pr (fun d => f_M_hearingDay x d) D) := by
  have hw := h.wf
  have h10 := hw.nb
  have bad : ∀ d1, MP d1 us g false → ∀ v, f_M_hearingDay_24 v (J (plT g)) d1 = some (J 0, wr d1 292 7 (J 1)) := fun d1 hp v => by
    unfold f_M_hearingDay_24 f_M_hearingDay_29
    simp only [J_lit]
    rw [M_fails (by decide), ob2_s, if_n (show ¬ J (if (1 : Nat) = 0 then 0 else 1) = J 0 by decide)]
  unfold f_W_hearingDay f_C_hearingDay f_C_checkedBrief
  simp only [J_lit]
  by_cases q : ∃ k, k < g 3 ∧ x = J (g (101 + 5 * k))
  · obtain ⟨k, hk, ek⟩ := q
    rw [(C_positionOf h.sim hw hD).1 k hk ek, ob1_s, if_n (fun q => (J_ne1 (by omega)).mp q), ok_ocW, ok_ocR, ok_s, Sum.elim_inl, ok_ob1]
    refine ok_mono (P_make h.sim hw hD) (fun d3 h3 => ?_)
    have hs := PM_scr h3.2
    have e2 : d3 2 0 = J (g 1) := (hs.sim h.sim hw.wg).day
    rw [P_place h3.1 hw hk, ob1_s, e2]
    cases hx : (plT g).testBit k with
    | true =>
      rw [if_p rfl, if_n (fun q => (J_ne1 (by have : hpl g k ≤ g 3 := cntN_le _; omega)).mp q), ok_s, Sum.elim_inl, ok_bnd, ok_s]
      dsimp only
      rw [J_add, J_add]
      refine pr_sans h hs (fun hp => ?_)
      have hm := MO_code hp.1 hp.2.1 0
      unfold f_M_hearingDay f_M_hearingDay_29
      simp only [J_lit]
      rw [(M_placeOf hp.1 hw hD).1 k hk ek, ob1_s, M_plan hp.1 hw hD, ob1_s, if_n (J_neg (by omega)), J_bit (by omega), hx, if_n (show ¬ J (if true = true then 1 else 0) = J 0 by decide), M_fails (by decide), ob2_s, if_p (show J (if (0 : Nat) = 0 then 0 else 1) = J 0 from rfl), M_hday40 hm.2.1 hw hD hk hx, ok_s]
      exact ⟨rfl, hm⟩
    | false =>
      rw [if_n (p := false = true) (by decide), if_p rfl, ok_s, Sum.elim_inr]
      show ok (if (3 : Nat) = 3 then some (J 1, d3) else none) _
      rw [if_p rfl, ok_s]
      refine pr_sfail h hs 1 (by decide) (by decide) (fun hp => ?_)
      unfold f_M_hearingDay
      simp only [J_lit]
      rw [(M_placeOf hp.1 hw hD).1 k hk ek, ob1_s, M_plan hp.1 hw hD, ob1_s, if_n (J_neg (by omega)), J_bit (by omega), hx, if_p (show J (if false = true then 1 else 0) = J 0 by decide), bad _ hp, ok_s]
      exact MO_code hp.1 hp.2.1 1
  · have q' : ∀ k, k < g 3 → x ≠ J (g (101 + 5 * k)) := fun k hk ek => q ⟨k, hk, ek⟩
    rw [(C_positionOf h.sim hw hD).2 q', ob1_s, if_p rfl, ok_ocW, ok_ocR, ok_s, Sum.elim_inr, ok_s, Sum.elim_inr]
    show ok (if (3 : Nat) = 3 then some (J 1, d) else none) _
    rw [if_p rfl, ok_s]
    refine pr_fail h (Nat.le_refl D) 1 (by decide) (by decide) (fun hp => ?_)
    unfold f_M_hearingDay
    simp only [J_lit]
    rw [(M_placeOf hp.1 hw hD).2 q', ob1_s, M_plan hp.1 hw hD, ob1_s, if_p (show -J 1 < J 0 by decide), bad _ hp, ok_s]
    exact MO_code hp.1 hp.2.1 1
theorem law_hearingDay (h : St D d g us sv e f ln cs om os) (hi : i + 5 ≤ L) (hL : L ≤ 2560) (hD : D < 100000) : ok (f_W_law_1603 L xs (J i) d) (fun y => ∃ d', y = .inl (J i + 5, d') ∧ Inv D d') := by
  unfold f_W_law_1603
  simp only [gdx1 hi hL]
  exact tail_i (P := Inv D) (P_hearingDay h hD)
end PASK
