/-! 27: the law's cases: the questions that read a cell -/
section ASK1
variable {D D' : Nat} {d d1 d2 : Dt} {g g' : Nat → Nat} {us us' : List (Nat → Nat)} {sv : Option (Nat → Nat)} {e f : Int32} {ln : Nat} {cs : Nat → Nat} {om : Nat} {os : Nat → Nat} {L i : Nat} {xs : Nat → Int32} {b : Bool}
theorem pr_ans {M : Dt → Option (Int32 × Dt)} {v : Int32} (h : St D d g us sv e f ln cs om os) (hM : MP (wr d 300 0 v) us g false → ok (M (wr d 300 0 v)) (fun z => z.1 = v ∧ MO (wr d 300 0 v) z.2 us g 0)) : Pr M D (J 0, wr d 300 0 v) := by
  refine ⟨0, by decide, rfl, ok_mono (hM (h.mp fX_refl.w300)) (fun u hm => ⟨hm.2.2.2.1, fun _ => ?_, (h.change (Nat.le_refl D) h.wf ⟨h.ul, h.uw⟩ (h.hs.w300 h.uw) (h.sim.w300 h.wf.nl (by decide)) fX_refl.w300 hm.2).inv⟩)⟩
  rw [hm.2.2.2.2.1 300 (by decide) (by decide) (by decide), wr_s, hm.1]
theorem prb_ans {M : Dt → Option (Int32 × Dt)} {v : Nat} (hv : v = 0 ∨ v = 1) (h : St D d g us sv e f ln cs om os) (hM : MP (wr d 300 0 (J v)) us g false → ok (M (wr d 300 0 (J v))) (fun z => z.1 = J v ∧ MO (wr d 300 0 (J v)) z.2 us g 0)) : PrB M D (J 0, wr d 300 0 (J v)) := by
  refine ⟨0, by decide, rfl, ok_mono (hM (h.mp fX_refl.w300)) (fun u hm => ⟨hm.2.2.2.1, fun _ => ⟨?_, ?_⟩, (h.change (Nat.le_refl D) h.wf ⟨h.ul, h.uw⟩ (h.hs.w300 h.uw) (h.sim.w300 h.wf.nl (by decide)) fX_refl.w300 hm.2).inv⟩)⟩
  · rcases hv with hv | hv
    · exact Or.inl (by rw [hm.1, hv])
    · exact Or.inr (by rw [hm.1, hv])
  · rw [hm.2.2.2.2.1 300 (by decide) (by decide) (by decide), wr_s, hm.1]
/-- a question without an error -/
theorem tail_q {x5 : Int32} {C : Option Int32} {M : Option (Int32 × Dt)} {v : Int32} {c : Nat} (h : St D d g us sv e f ln cs om os) (hC : C = some v) (hM : MP d us g false → ok M (fun z => z.1 = v ∧ MO d z.2 us g c)) : ok (ob1 C fun r1 => ob2 M fun r2 d2 => if r1 = r2 then some (.inl ((x5 + 5), d2)) else ir (some ((0 : Int32), d2))) (fun y => ∃ d', y = .inl (x5 + 5, d') ∧ Inv D d') := by
  rw [hC, ob1_s, ok_ob2]
  refine ok_mono (hM (h.mp fX_refl)) (fun u hu => ?_)
  rw [hu.1, if_p rfl, ok_s]
  exact ⟨_, rfl, (h.change (Nat.le_refl D) h.wf ⟨h.ul, h.uw⟩ h.hs h.sim fX_refl hu.2).inv⟩
theorem M_cell {j : Nat} {v : Int32} (hp : MP d us g b) (hv : v = J (g j)) (hj : j < 187) : ok (some ((wr d 292 7 (J 0)) 293 j, wr d 292 7 (J 0))) (fun z => z.1 = v ∧ MO d z.2 us g 0) := by
  rw [ok_s]
  refine ⟨?_, MO_code hp.1 hp.2.1 0⟩
  rw [wr_k (by decide), hp.1.at hj, hv]
theorem law_day (h : St D d g us sv e f ln cs om os) : ok (f_W_law_906 L xs (J i) d) (fun y => ∃ d', y = .inl (J i + 5, d') ∧ Inv D d') :=
  tail_q h rfl (fun hp => M_cell hp (show d 2 0 = _ from h.sim.day) (by decide))
theorem law_lanternCount (h : St D d g us sv e f ln cs om os) : ok (f_W_law_919 L xs (J i) d) (fun y => ∃ d', y = .inl (J i + 5, d') ∧ Inv D d') :=
  tail_q h rfl (fun hp => M_cell hp (show d 3 0 = _ from h.sim.nl) (by decide))
theorem law_briefCount (h : St D d g us sv e f ln cs om os) : ok (f_W_law_1247 L xs (J i) d) (fun y => ∃ d', y = .inl (J i + 5, d') ∧ Inv D d') :=
  tail_q h rfl (fun hp => M_cell hp (show d 16 0 = _ from h.sim.nb) (by decide))
theorem law_statementCount (h : St D d g us sv e f ln cs om os) : ok (f_W_law_1685 L xs (J i) d) (fun y => ∃ d', y = .inl (J i + 5, d') ∧ Inv D d') :=
  tail_q h rfl (fun hp => M_cell hp (show d 22 0 = _ from h.sim.ns) (by decide))
theorem law_paidBack (h : St D d g us sv e f ln cs om os) : ok (f_W_law_2250 L xs (J i) d) (fun y => ∃ d', y = .inl (J i + 5, d') ∧ Inv D d') :=
  tail_q h rfl (fun hp => M_cell hp (show d 2 5 = _ from h.sim.pd) (by decide))
theorem law_lapsedCount (h : St D d g us sv e f ln cs om os) : ok (f_W_law_2321 L xs (J i) d) (fun y => ∃ d', y = .inl (J i + 5, d') ∧ Inv D d') :=
  tail_q h rfl (fun hp => M_cell hp (show d 2 7 = _ from h.sim.lp) (by decide))
theorem law_servedDays (h : St D d g us sv e f ln cs om os) : ok (f_W_law_2334 L xs (J i) d) (fun y => ∃ d', y = .inl (J i + 5, d') ∧ Inv D d') :=
  tail_q h rfl (fun hp => M_cell hp (show d 2 8 = _ from h.sim.sd) (by decide))
theorem law_courtCoins (h : St D d g us sv e f ln cs om os) : ok (f_W_law_2237 L xs (J i) d) (fun y => ∃ d', y = .inl (J i + 5, d') ∧ Inv D d') := by
  refine tail_q (c := 0) h rfl (fun hp => ?_)
  show ok (some ((wr d 292 7 (J 0)) 293 6 - (wr d 292 7 (J 0)) 293 5, wr d 292 7 (J 0))) _
  rw [ok_s]
  refine ⟨?_, MO_code hp.1 hp.2.1 0⟩
  have e4 : d 2 4 = J (g 6) := h.sim.fs
  have e5 : d 2 5 = J (g 5) := h.sim.pd
  show (wr d 292 7 (J 0)) 293 6 - (wr d 292 7 (J 0)) 293 5 = _
  rw [wr_k (by decide), hp.1.at (by decide), hp.1.at (by decide), e4, e5]
/-- a cell of a lantern -/
theorem M_lanternCell {k i : Nat} (hp : MP d us g b) (h8 : g 0 ≤ 8) (hi : i < g 0) (hk : k < 11) : ok (ob1 (f_M_of (J i) (J k) (wr d 292 7 (J 0))) fun r3 => some (r3, wr d 292 7 (J 0))) (fun z => z.1 = J (g (13 + 11 * i + k)) ∧ MO d z.2 us g 0) := by
  rw [M_of (by omega) hk, ob1_s, ok_s]
  refine ⟨?_, MO_code hp.1 hp.2.1 0⟩
  rw [wr_k (by decide), hp.1.at (by omega)]
theorem P_brightness {x : Int32} (h : St D d g us sv e f ln cs om os) : ok (f_W_brightness x d) (Pr (fun d => f_M_brightness x d) D) := by
  have h8 := h.wf.nl
  unfold f_W_brightness f_C_brightness
  simp only [J_lit]
  by_cases q : isIn (g 0) x
  · rw [(C_checkL h.sim h8).1 q, ok_ocR, ok_ocU, ok_s, Sum.elim_inl]
    obtain ⟨i, hi, rfl⟩ := q
    have e4 : d 4 i = J (g (13 + 11 * i)) := h.sim.bri hi
    rw [J_inb (by omega), gd_d (by omega), J_nat (by omega), ok_s, Sum.elim_inl, ok_bnd, ok_s, e4]
    refine pr_ans h (fun hp => ?_)
    unfold f_M_brightness
    simp only [J_lit]
    rw [(M_isNone hp.1 h8).1 ⟨i, hi, rfl⟩, ob2_s, if_p rfl]
    exact M_lanternCell hp h8 hi (by decide)
  · rw [(C_checkL h.sim h8).2 q, ok_ocR, ok_ocU, ok_s, Sum.elim_inr, ok_s, Sum.elim_inr]
    show ok (if (1 : Nat) = 1 then some (J 1, d) else none) _
    rw [if_p rfl, ok_s]
    refine pr_fail h (Nat.le_refl D) 1 (by decide) (by decide) (fun hp => ?_)
    unfold f_M_brightness
    simp only [J_lit]
    rw [(M_isNone hp.1 h8).2 q, ob2_s, if_n n10, ok_s]
    exact MO_code hp.1 hp.2.1 1
theorem P_sentenceCount {x : Int32} (h : St D d g us sv e f ln cs om os) : ok (f_W_sentenceCount x d) (Pr (fun d => f_M_sentenceCount x d) D) := by
  have h8 := h.wf.nl
  unfold f_W_sentenceCount f_C_sentenceCount
  simp only [J_lit]
  by_cases q : isIn (g 0) x
  · rw [(C_checkL h.sim h8).1 q, ok_ocR, ok_ocU, ok_s, Sum.elim_inl]
    obtain ⟨i, hi, rfl⟩ := q
    have e4 : d 6 i = J (g (15 + 11 * i)) := h.sim.sc hi
    rw [J_inb (by omega), gd_d (by omega), J_nat (by omega), ok_s, Sum.elim_inl, ok_bnd, ok_s, e4]
    refine pr_ans h (fun hp => ?_)
    unfold f_M_sentenceCount
    simp only [J_lit]
    rw [(M_isNone hp.1 h8).1 ⟨i, hi, rfl⟩, ob2_s, if_p rfl, show 15 + 11 * i = 13 + 11 * i + 2 by omega]
    exact M_lanternCell hp h8 hi (by decide)
  · rw [(C_checkL h.sim h8).2 q, ok_ocR, ok_ocU, ok_s, Sum.elim_inr, ok_s, Sum.elim_inr]
    show ok (if (1 : Nat) = 1 then some (J 1, d) else none) _
    rw [if_p rfl, ok_s]
    refine pr_fail h (Nat.le_refl D) 1 (by decide) (by decide) (fun hp => ?_)
    unfold f_M_sentenceCount
    simp only [J_lit]
    rw [(M_isNone hp.1 h8).2 q, ob2_s, if_n n10, ok_s]
    exact MO_code hp.1 hp.2.1 1
theorem nar01 {t : Nat} (ht : t ≤ 1) : nar .boolean (J t) = true := by
  rcases (by omega : t = 0 ∨ t = 1) with rfl | rfl <;> decide
theorem P_hasAdmitted {x y : Int32} (h : St D d g us sv e f ln cs om os) : ok (f_W_hasAdmitted x y d) (PrB (fun d => f_M_hasAdmitted x y d) D) := by
  have h8 := h.wf.nl
  unfold f_W_hasAdmitted f_C_hasAdmitted f_L_admits f_L_admits_15
  simp only [J_lit]
  by_cases q : isIn (g 0) x
  · rw [(C_checkL h.sim h8).1 q, ok_ocR, ok_ocU, ok_s, Sum.elim_inl]
    obtain ⟨i, hi, rfl⟩ := q
    have hai := h.wf.adm hi
    have e4 : d 5 i = J (g (14 + 11 * i)) := h.sim.adm hi
    rw [J_inb (by omega), gd_d (by omega), J_nat (by omega), e4]
    have fin : ∀ v r, v ≤ 2 → r = (if g (14 + 11 * i) = v then 1 else 0) → (∀ d', (if y = J 0 then f_M_hasAdmitted_23 (J (g (14 + 11 * i))) (J 2) d' else f_M_hasAdmitted_23 (J (g (14 + 11 * i))) (J 1) d') = f_M_hasAdmitted_23 (J (g (14 + 11 * i))) (J v) d') → PrB (fun d => f_M_hasAdmitted (J i) y d) D (J 0, wr d 300 0 (J r)) := by
      intro v r hv hr hy
      have hr01 : r = 0 ∨ r = 1 := by
        by_cases q : g (14 + 11 * i) = v
        · rw [if_p q] at hr; exact Or.inr hr
        · rw [if_n q] at hr; exact Or.inl hr
      refine prb_ans hr01 h (fun hp => ?_)
      unfold f_M_hasAdmitted
      simp only [J_lit]
      rw [(M_isNone hp.1 h8).1 ⟨i, hi, rfl⟩, ob2_s, if_p rfl, M_of (by omega) (by omega), ob1_s, wr_k (by decide), hp.1.at (by omega), show 13 + 11 * i + 1 = 14 + 11 * i by omega, hy]
      unfold f_M_hasAdmitted_23
      simp only [J_lit]
      by_cases q : g (14 + 11 * i) = v
      · rw [if_p (by rw [q]), ok_s]
        exact ⟨by rw [hr, if_p q], MO_code hp.1 hp.2.1 0⟩
      · rw [if_n (J_ne q (by omega) (by omega)), ok_s]
        exact ⟨by rw [hr, if_n q], MO_code hp.1 hp.2.1 0⟩
    by_cases hy : y = J 0
    · simp only [if_p hy] at fin ⊢
      by_cases q : g (14 + 11 * i) = 2
      · rw [if_p (by rw [q]), ob1_s, nar01 (t := 1) (by decide)]
        show ok (some (Sum.inl (J 1))) _
        rw [ok_s, Sum.elim_inl, if_n n10, ok_bnd, ok_s]
        exact fin 2 1 (by decide) (by rw [if_p q]) (fun _ => rfl)
      · rw [if_n (J_ne q (by omega) (by decide)), ob1_s, nar01 (t := 0) (by decide)]
        show ok (some (Sum.inl (J 0))) _
        rw [ok_s, Sum.elim_inl, if_p rfl, ok_bnd, ok_s]
        exact fin 2 0 (by decide) (by rw [if_n q]) (fun _ => rfl)
    · simp only [if_n hy] at fin ⊢
      by_cases q : g (14 + 11 * i) = 1
      · rw [if_p (by rw [q]), ob1_s, nar01 (t := 1) (by decide)]
        show ok (some (Sum.inl (J 1))) _
        rw [ok_s, Sum.elim_inl, if_n n10, ok_bnd, ok_s]
        exact fin 1 1 (by decide) (by rw [if_p q]) (fun _ => rfl)
      · rw [if_n (J_ne q (by omega) (by decide)), ob1_s, nar01 (t := 0) (by decide)]
        show ok (some (Sum.inl (J 0))) _
        rw [ok_s, Sum.elim_inl, if_p rfl, ok_bnd, ok_s]
        exact fin 1 0 (by decide) (by rw [if_n q]) (fun _ => rfl)
  · rw [(C_checkL h.sim h8).2 q, ok_ocR, ok_ocU, ok_s, Sum.elim_inr, ok_s, Sum.elim_inr]
    show ok (if (1 : Nat) = 1 then some (J 1, d) else none) _
    rw [if_p rfl, ok_s]
    refine prb_fail h (Nat.le_refl D) 1 (by decide) (by decide) (fun hp => ?_)
    unfold f_M_hasAdmitted
    simp only [J_lit]
    rw [(M_isNone hp.1 h8).2 q, ob2_s, if_n n10, ok_s]
    exact MO_code hp.1 hp.2.1 1
theorem P_daysLeft {x : Int32} (h : St D d g us sv e f ln cs om os) : ok (f_W_daysLeft x d) (Pr (fun d => f_M_daysLeft x d) D) := by
  have hw := h.wf
  have h8 := hw.nl
  unfold f_W_daysLeft f_C_daysLeft f_C_checkServing f_L_serves
  simp only [J_lit]
  by_cases q : isIn (g 0) x
  · rw [(C_checkL h.sim h8).1 q, ok_ocR, ok_ocU, ok_ocU, ok_s, Sum.elim_inl]
    obtain ⟨i, hi, rfl⟩ := q
    have hsc := (hw.sc hi)
    have e6 : d 6 i = J (g (15 + 11 * i)) := h.sim.sc hi
    have m6 : ∀ {d1 : Dt}, MP d1 us g false → d1 293 (13 + 11 * i + 2) = J (g (15 + 11 * i)) := fun hp => by rw [hp.1.at (by omega), show 13 + 11 * i + 2 = 15 + 11 * i by omega]
    rw [J_inb (by omega), gd_d (by omega), J_nat (by omega), e6]
    by_cases h0 : g (15 + 11 * i) = 0
    · rw [if_p ((J_le (by omega) (by omega)).mpr (by omega)), ob1_s, if_p rfl, ok_s, Sum.elim_inr, ok_s, Sum.elim_inr]
      show ok (if (3 : Nat) = 1 then _ else if (3 : Nat) = 3 then some (J 2, d) else none) _
      rw [if_n (by decide), if_p rfl, ok_s]
      refine pr_fail h (Nat.le_refl D) 2 (by decide) (by decide) (fun hp => ?_)
      unfold f_M_daysLeft f_M_daysLeft_27
      simp only [J_lit]
      rw [(M_isLantern hp.1 h8).1 ⟨i, hi, rfl⟩, ob1_s, if_n n10, M_of (by omega) (by omega), ob1_s, m6 hp, if_p (by rw [h0]), M_f1 (by decide) (by decide), ok_s]
      exact MO_code hp.1 hp.2.1 2
    · have e8 : d (8 + i) 0 = J (g (16 + 11 * i)) := h.sim.sen hi (j := 0) (by omega)
      rw [if_n (fun q => by have := (J_le (by omega) (by omega)).mp q; omega), ob1_s, if_n n10, ok_s, Sum.elim_inl, gd_d (by omega), ok_s, Sum.elim_inl, ok_bnd, ok_s, e8]
      refine pr_ans h (fun hp => ?_)
      unfold f_M_daysLeft f_M_daysLeft_27
      simp only [J_lit]
      rw [(M_isLantern hp.1 h8).1 ⟨i, hi, rfl⟩, ob1_s, if_n n10, M_of (by omega) (by omega), ob1_s, m6 hp, if_n (J_ne h0 (by omega) (by decide)), M_f0, show 16 + 11 * i = 13 + 11 * i + 3 by omega]
      exact M_lanternCell hp h8 hi (by decide)
  · rw [(C_checkL h.sim h8).2 q, ok_ocR, ok_ocU, ok_ocU, ok_s, Sum.elim_inr, ok_s, Sum.elim_inr, ok_s, Sum.elim_inr]
    show ok (if (1 : Nat) = 1 then some (J 1, d) else _) _
    rw [if_p rfl, ok_s]
    refine pr_fail h (Nat.le_refl D) 1 (by decide) (by decide) (fun hp => ?_)
    unfold f_M_daysLeft f_M_daysLeft_27
    simp only [J_lit]
    rw [(M_isLantern hp.1 h8).2 q, ob1_s, if_p rfl, M_f1 (by decide) (by decide), ok_s]
    exact MO_code hp.1 hp.2.1 1
end ASK1
