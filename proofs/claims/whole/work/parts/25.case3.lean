/-! 25: the law's cases: the calls with an argument -/
section CASE3
variable {D D' : Nat} {d d1 d2 : Dt} {g g' : Nat → Nat} {us us' : List (Nat → Nat)} {sv : Option (Nat → Nat)} {e f : Int32} {ln : Nat} {cs : Nat → Nat} {om : Nat} {os : Nat → Nat} {c : Nat}
/-- the case of an answer that is a truth value -/
def PrB (M : Dt → Option (Int32 × Dt)) (D' : Nat) (z : Int32 × Dt) : Prop := ∃ c, c < 10 ∧ z.1 = J c ∧ ok (M z.2) (fun u => u.2 292 7 = J c ∧ (c = 0 → (u.1 = J 0 ∨ u.1 = J 1) ∧ u.2 300 0 = u.1) ∧ Inv D' u.2)
theorem prb_fail {M : Dt → Option (Int32 × Dt)} (h : St D d g us sv e f ln cs om os) (hD : D ≤ D') (c : Nat) (hc : c < 10) (h1 : 1 ≤ c) (hM : MP d us g false → ok (M d) (fun z => MO d z.2 us g c)) : PrB M D' (J c, d) :=
  ⟨c, hc, rfl, ok_mono (hM (h.mp fX_refl)) (fun u hu => ⟨hu.2.2.1, fun q => absurd q (by omega), (h.change hD (h.wf.mono hD) ⟨h.ul, fun u hu => (h.uw u hu).mono hD⟩ h.hs h.sim fX_refl hu).inv⟩)⟩
theorem prb_ok {M : Dt → Option (Int32 × Dt)} {v : Nat} (hv : v = 0 ∨ v = 1) (h : St D d g us sv e f ln cs om os) (hD : D ≤ D') (hw : WF D' g') (hH : HS d1 (pushU us g)) (hS : Sim d1 2 g') (hf : fX d d1) (hM : MP (wr d1 300 0 (J v)) us g false → ok (M (wr d1 300 0 (J v))) (fun z => z.1 = J v ∧ MO (wr d1 300 0 (J v)) z.2 (pushU us g) g' 0)) : PrB M D' (J 0, wr d1 300 0 (J v)) := by
  have hu : ∀ u ∈ pushU us g, WF D' u := fun u hu => (pushU_WF h.uw h.wf u hu).mono hD
  refine ⟨0, by decide, rfl, ok_mono (hM (h.mp hf.w300)) (fun u hm => ⟨hm.2.2.2.1, fun _ => ⟨?_, ?_⟩, (h.change hD hw ⟨pushU_len h.ul, hu⟩ (hH.w300 hu) (hS.w300 hw.nl (by decide)) hf.w300 hm.2).inv⟩)⟩
  · rcases hv with hv | hv
    · exact Or.inl (by rw [hm.1, hv])
    · exact Or.inr (by rw [hm.1, hv])
  · rw [hm.2.2.2.2.1 300 (by decide) (by decide) (by decide), wr_s, hm.1]
theorem P_withdraw {x : Int32} (h : St D d g us sv e f ln cs om os) (hD : D < 100000) : ok (f_W_withdraw x d) (Pr (fun d => f_M_withdraw x d) D) := by
  have hw := h.wf
  have h10 := hw.nb
  unfold f_W_withdraw f_C_withdraw f_C_checkedBrief
  simp only [J_lit]
  by_cases q : ∃ k, k < g 3 ∧ x = J (g (101 + 5 * k))
  · obtain ⟨k, hk, ek⟩ := q
    rw [(C_positionOf h.sim hw hD).1 k hk ek, ob1_s, if_n (fun q => (J_ne1 (by omega)).mp q), ok_ocW, ok_ocR, ok_s, Sum.elim_inl]
    refine rem_then h (fun d2 hS2 hc2 => ?_)
    rw [ok_ob2]
    refine ok_mono (C_giveBack hS2 hw hk) (fun z hz => ?_)
    obtain ⟨z1, z2, z3⟩ := hz
    obtain ⟨w1, w2⟩ := co_then h hc2 z3
    rw [ok_s, Sum.elim_inl, ok_bnd, ok_s, z1]
    exact pr_ok h (Nat.le_refl D) (WF_back hw hk) w1 z2 w2 (fun hp => (M_withdraw hp hw hD).2 k hk ek)
  · have q' : ∀ k, k < g 3 → x ≠ J (g (101 + 5 * k)) := fun k hk ek => q ⟨k, hk, ek⟩
    rw [(C_positionOf h.sim hw hD).2 q', ob1_s, if_p rfl, ok_ocW, ok_ocR, ok_s, Sum.elim_inr, ok_s, Sum.elim_inr]
    show ok (if (3 : Nat) = 3 then some (J 1, d) else none) _
    rw [if_p rfl, ok_s]
    exact pr_fail h (Nat.le_refl D) 1 (by decide) (by decide) (fun hp => (M_withdraw hp hw hD).1 q')
theorem P_dropStatement {x : Int32} (h : St D d g us sv e f ln cs om os) : ok (f_W_dropStatement x d) (Pr (fun d => f_M_dropStatement x d) D) := by
  have hw := h.wf
  have h12 := hw.ns
  unfold f_W_dropStatement f_C_dropStatement
  simp only [J_lit]
  by_cases q : isIn (g 4) x
  · rw [(C_checkT h.sim h12).1 q, ok_ocW, ok_ocU, ok_s, Sum.elim_inl]
    obtain ⟨p, hp, rfl⟩ := q
    refine rem_then h (fun d2 hS2 hc2 => ?_)
    rw [ok_ob2]
    refine ok_mono (C_T_remove hS2 hw hp) (fun z hz => ?_)
    obtain ⟨z1, z2, z3⟩ := hz
    obtain ⟨w1, w2⟩ := co_then h hc2 z3
    rw [ok_s, Sum.elim_inl, ok_bnd, ok_s, z1]
    exact pr_ok h (Nat.le_refl D) (WF_drop hw hp) w1 z2 w2 (fun hq => (M_dropStatement hq h12).2 p hp rfl)
  · rw [(C_checkT h.sim h12).2 q, ok_ocW, ok_ocU, ok_s, Sum.elim_inr, ok_s, Sum.elim_inr]
    show ok (if (1 : Nat) = 1 then some (J 1, d) else none) _
    rw [if_p rfl, ok_s]
    exact pr_fail h (Nat.le_refl D) 1 (by decide) (by decide) (fun hp => (M_dropStatement hp h12).1 q)
theorem P_makeStatement {x y : Int32} {t : Nat} (ht : t ≤ 1) (h : St D d g us sv e f ln cs om os) : ok (f_W_makeStatement x y (J t) d) (Pr (fun d => f_M_makeStatement x y (J t) d) D) := by
  have hw := h.wf
  have h8 := hw.nl
  have h12 := hw.ns
  have e22 : d 22 0 = J (g 4) := h.sim.ns
  have et : (if J t = (0 : Int32) then 0 else 1) = t := by
    by_cases h0 : t = 0
    · rw [h0]; rfl
    · rw [if_n (show ¬ J t = (0 : Int32) from J_ne h0 (by omega) (by decide))]; omega
  unfold f_W_makeStatement f_C_makeStatement
  simp only [J_lit]
  have bad : ¬ (isIn (g 0) x ∧ isIn (g 0) y) → Pr (fun d => f_M_makeStatement x y (J t) d) D (J 1, d) := fun q =>
    pr_fail h (Nat.le_refl D) 1 (by decide) (by decide) (fun hp => (M_makeStatement hp h8 h12).1 q)
  by_cases q1 : isIn (g 0) x
  · rw [(C_checkL h.sim h8).1 q1, ok_ocW, ok_ocU, ok_s, Sum.elim_inl]
    by_cases q2 : isIn (g 0) y
    · rw [(C_checkL h.sim h8).1 q2, ok_ocU, ok_s, Sum.elim_inl]
      obtain ⟨i, hi, rfl⟩ := q1
      obtain ⟨j, hj, rfl⟩ := q2
      by_cases hij : i = j
      · rw [if_p (by rw [hij]), ok_s, Sum.elim_inr]
        show ok (if (2 : Nat) = 1 then _ else if (2 : Nat) = 2 then some (J 2, d) else _) _
        rw [if_n (by decide), if_p rfl, ok_s]
        exact pr_fail h (Nat.le_refl D) 2 (by decide) (by decide) (fun hp => ((M_makeStatement hp h8 h12).2 i j hi hj rfl rfl).1 hij)
      · rw [if_n (J_ne hij (by omega) (by omega))]
        unfold f_T_isFull
        simp only [J_lit]
        rw [e22]
        by_cases hf : g 4 < 12
        · rw [if_p ((J_lt (by omega) (by omega)).mpr hf), ob1_s, if_p rfl]
          refine rem_then h (fun d2 hS2 hc2 => ?_)
          rw [ok_ob2]
          refine ok_mono (C_T_add hS2 hw hf ht) (fun z hz => ?_)
          obtain ⟨z1, z2, z3⟩ := hz
          obtain ⟨w1, w2⟩ := co_then h hc2 z3
          rw [ok_s, Sum.elim_inl, ok_bnd, ok_s, z1]
          refine pr_ok h (Nat.le_refl D) (WF_st hw hf hi hj hij ht) w1 z2 w2 (fun hp => ?_)
          have r := ((M_makeStatement (t := J t) hp h8 h12).2 i j hi hj rfl rfl).2.2 hij hf
          rw [et] at r
          exact r
        · rw [if_n (fun q => hf ((J_lt (by omega) (by omega)).mp q)), ob1_s, if_n n10, ok_s, Sum.elim_inr]
          show ok (if (0 : Nat) = 1 then _ else if (0 : Nat) = 2 then _ else if (0 : Nat) = 0 then some (J 3, d) else none) _
          rw [if_n (by decide), if_n (by decide), if_p rfl, ok_s]
          exact pr_fail h (Nat.le_refl D) 3 (by decide) (by decide) (fun hp => ((M_makeStatement hp h8 h12).2 i j hi hj rfl rfl).2.1 hij (by omega))
    · rw [(C_checkL h.sim h8).2 q2, ok_ocU, ok_s, Sum.elim_inr, ok_s, Sum.elim_inr]
      show ok (if (1 : Nat) = 1 then some (J 1, d) else _) _
      rw [if_p rfl, ok_s]
      exact bad (fun q => q2 q.2)
  · rw [(C_checkL h.sim h8).2 q1, ok_ocW, ok_ocU, ok_s, Sum.elim_inr, ok_s, Sum.elim_inr]
    show ok (if (1 : Nat) = 1 then some (J 1, d) else _) _
    rw [if_p rfl, ok_s]
    exact bad (fun q => q1 q.1)
theorem P_pardon {x : Int32} (h : St D d g us sv e f ln cs om os) : ok (f_W_pardon x d) (Pr (fun d => f_M_pardon x d) D) := by
  have hw := h.wf
  have h8 := hw.nl
  unfold f_W_pardon f_C_pardon f_C_checkServing f_L_serves
  simp only [J_lit]
  by_cases q : isIn (g 0) x
  · rw [(C_checkL h.sim h8).1 q, ok_ocW, ok_ocU, ok_ocU, ok_s, Sum.elim_inl]
    obtain ⟨i, hi, rfl⟩ := q
    have hsc := (hw.sc hi)
    have e6 : d 6 i = J (g (15 + 11 * i)) := h.sim.sc hi
    rw [J_inb (by omega), gd_d (by omega), J_nat (by omega), e6]
    by_cases h0 : g (15 + 11 * i) = 0
    · rw [if_p ((J_le (by omega) (by omega)).mpr (by omega)), ob1_s, if_p rfl, ok_s, Sum.elim_inr, ok_s, Sum.elim_inr]
      show ok (if (3 : Nat) = 1 then _ else if (3 : Nat) = 3 then some (J 2, d) else none) _
      rw [if_n (by decide), if_p rfl, ok_s]
      exact pr_fail h (Nat.le_refl D) 2 (by decide) (by decide) (fun hp => ((M_pardon hp hw).2 i hi rfl).1 h0)
    · rw [if_n (fun q => by have := (J_le (by omega) (by omega)).mp q; omega), ob1_s, if_n n10, ok_s, Sum.elim_inl]
      refine rem_then h (fun d2 hS2 hc2 => ?_)
      rw [ok_ob2]
      refine ok_mono (C_endSentence (D := D) hS2 h8 (fun k hk => (hw.sc hk)) hw.nb hw.ns hi (by omega)) (fun z hz => ?_)
      obtain ⟨z1, z2, z3⟩ := hz
      obtain ⟨w1, w2⟩ := co_then h hc2 z3
      rw [ok_s, Sum.elim_inl, ok_bnd, ok_s, z1]
      exact pr_ok h (Nat.le_refl D) (WF_ends hw hi) w1 z2 w2 (fun hp => ((M_pardon hp hw).2 i hi rfl).2 h0)
  · rw [(C_checkL h.sim h8).2 q, ok_ocW, ok_ocU, ok_ocU, ok_s, Sum.elim_inr, ok_s, Sum.elim_inr, ok_s, Sum.elim_inr]
    show ok (if (1 : Nat) = 1 then some (J 1, d) else _) _
    rw [if_p rfl, ok_s]
    exact pr_fail h (Nat.le_refl D) 1 (by decide) (by decide) (fun hp => (M_pardon hp hw).1 q)
theorem P_retract {x : Int32} (h : St D d g us sv e f ln cs om os) : ok (f_W_retract x d) (PrB (fun d => f_M_retract x d) D) := by
  have hw := h.wf
  have h8 := hw.nl
  have hA : ∀ i, i < g 0 → g (14 + 11 * i) ≤ 2 := fun i hi => hw.adm hi
  unfold f_W_retract f_C_retract
  simp only [J_lit]
  by_cases q : isIn (g 0) x
  · rw [(C_checkL h.sim h8).1 q, ok_ocW, ok_ocU, ok_s, Sum.elim_inl]
    obtain ⟨i, hi, rfl⟩ := q
    have hai := hA i hi
    have e5 : d 5 i = J (g (14 + 11 * i)) := h.sim.adm hi
    rw [J_inb (by omega), gd_d (by omega), J_nat (by omega), e5]
    by_cases h0 : g (14 + 11 * i) = 0
    · rw [if_p (by rw [h0]), ok_s, Sum.elim_inr]
      show ok (if (3 : Nat) = 1 then _ else if (3 : Nat) = 3 then some (J 2, d) else none) _
      rw [if_n (by decide), if_p rfl, ok_s]
      exact prb_fail h (Nat.le_refl D) 2 (by decide) (by decide) (fun hp => ((M_retract hp h8 hA).2 i hi rfl).1 h0)
    · rw [if_n (J_ne h0 (by omega) (by decide))]
      refine rem_then h (fun d2 hS2 hc2 => ?_)
      rw [ok_ob2]
      refine ok_mono (C_setAdmission (v := 0) hS2 hw hi) (fun z hz => ?_)
      obtain ⟨z1, z2, z3⟩ := hz
      obtain ⟨w1, w2⟩ := co_then h hc2 z3
      rw [z1]
      have fin : ∀ v, v = (if g (14 + 11 * i) = 1 then 1 else 0) → PrB (fun d => f_M_retract (J i) d) D (J 0, wr z.2 300 0 (J v)) := fun v hv => by
        refine prb_ok ?_ h (Nat.le_refl D) (WF_adm hw hi (by omega)) w1 z2 w2 (fun hp => ?_)
        · by_cases h1 : g (14 + 11 * i) = 1
          · rw [if_p h1] at hv; exact Or.inr hv
          · rw [if_n h1] at hv; exact Or.inl hv
        · have r := ((M_retract hp h8 hA).2 i hi rfl).2 h0
          rw [← hv] at r
          exact r
      by_cases h1 : g (14 + 11 * i) = 1
      · rw [if_p (by rw [h1]), ok_s, Sum.elim_inl, if_n n10, ok_bnd, ok_s]
        exact fin 1 (by rw [if_p h1])
      · rw [if_n (J_ne h1 (by omega) (by decide)), ok_s, Sum.elim_inl, if_p rfl, ok_bnd, ok_s]
        exact fin 0 (by rw [if_n h1])
  · rw [(C_checkL h.sim h8).2 q, ok_ocW, ok_ocU, ok_s, Sum.elim_inr, ok_s, Sum.elim_inr]
    show ok (if (1 : Nat) = 1 then some (J 1, d) else _) _
    rw [if_p rfl, ok_s]
    exact prb_fail h (Nat.le_refl D) 1 (by decide) (by decide) (fun hp => (M_retract hp h8 hA).1 q)
theorem P_admit {x y : Int32} (h : St D d g us sv e f ln cs om os) : ok (f_W_admit x y d) (PrB (fun d => f_M_admit x y d) D) := by
  have hw := h.wf
  have h8 := hw.nl
  have hA : ∀ i, i < g 0 → g (14 + 11 * i) ≤ 2 := fun i hi => hw.adm hi
  unfold f_W_admit f_C_admit f_C_admit_55 f_L_admits f_L_admits_15
  simp only [J_lit]
  by_cases q : isIn (g 0) x
  · rw [(C_checkL h.sim h8).1 q, ok_ocW, ok_ocU, ok_s, Sum.elim_inl]
    obtain ⟨i, hi, rfl⟩ := q
    have hai := hA i hi
    have e5 : d 5 i = J (g (14 + 11 * i)) := h.sim.adm hi
    rw [J_inb (by omega), gd_d (by omega), J_nat (by omega), e5]
    have key : ∀ v, v = (if y = (0 : Int32) then 2 else 1) → (v = 1 ∨ v = 2) → ok (if J (g (14 + 11 * i)) = J v then some (.inr (0, d)) else ob1 (f_C_remember d) fun d5 => ob2 (f_L_setAdmission (J i) (J v) d5) fun r1 d2 => if r1 = J 0 then some (.inl (J 0, d2)) else some (.inl (J 1, d2)) : Option ((Int32 × Dt) ⊕ (Nat × Dt))) (fun w => Sum.elim (fun r => ok (if r.1 = J 0 then bnd (wr r.2 300 0 (J 0)) fun d4 => some (J 0, d4) else bnd (wr r.2 300 0 (J 1)) fun d5 => some (J 0, d5)) (PrB (fun d => f_M_admit (J i) y d) D)) (fun r => ok (if r.1 = 1 then some (J 1, r.2) else if r.1 = 0 then some (J 2, r.2) else none) (PrB (fun d => f_M_admit (J i) y d) D)) w) := by
      intro v hv hv2
      by_cases h0 : g (14 + 11 * i) = v
      · rw [if_p (by rw [h0]), ok_s, Sum.elim_inr]
        show ok (if (0 : Nat) = 1 then _ else if (0 : Nat) = 0 then some (J 2, d) else none) _
        rw [if_n (by decide), if_p rfl, ok_s]
        exact prb_fail h (Nat.le_refl D) 2 (by decide) (by decide) (fun hp => ((M_admit hp h8 hA).2 i hi rfl).1 (by rw [h0, hv]))
      · rw [if_n (J_ne h0 (by omega) (by omega))]
        refine rem_then h (fun d2 hS2 hc2 => ?_)
        rw [ok_ob2]
        refine ok_mono (C_setAdmission (v := v) hS2 hw hi) (fun z hz => ?_)
        obtain ⟨z1, z2, z3⟩ := hz
        obtain ⟨w1, w2⟩ := co_then h hc2 z3
        rw [z1]
        have fin : ∀ r, r = (if g (14 + 11 * i) = 0 then 0 else 1) → PrB (fun d => f_M_admit (J i) y d) D (J 0, wr z.2 300 0 (J r)) := fun r hr => by
          refine prb_ok ?_ h (Nat.le_refl D) (WF_adm (v := v) hw hi (by omega)) w1 z2 w2 (fun hp => ?_)
          · by_cases h1 : g (14 + 11 * i) = 0
            · rw [if_p h1] at hr; exact Or.inl hr
            · rw [if_n h1] at hr; exact Or.inr hr
          · have r' := ((M_admit hp h8 hA).2 i hi rfl).2 (by rw [← hv]; exact h0)
            rw [← hr, ← hv] at r'
            exact r'
        by_cases h1 : g (14 + 11 * i) = 0
        · rw [if_p (by rw [h1]), ok_s, Sum.elim_inl, if_p rfl, ok_bnd, ok_s]
          exact fin 0 (by rw [if_p h1])
        · rw [if_n (J_ne h1 (by omega) (by decide)), ok_s, Sum.elim_inl, if_n n10, ok_bnd, ok_s]
          exact fin 1 (by rw [if_n h1])
    by_cases hy0 : y = (0 : Int32)
    · have k := key 2 (by rw [if_p hy0]) (Or.inr rfl)
      have hy : y = J 0 := hy0
      simp only [if_p hy]
      by_cases h0 : g (14 + 11 * i) = 2
      · rw [if_p (by rw [h0])] at k ⊢
        rw [ob1_s, if_n n10]
        exact k
      · rw [if_n (J_ne h0 (by omega) (by decide))] at k ⊢
        rw [ob1_s, if_p rfl]
        exact k
    · have k := key 1 (by rw [if_n hy0]) (Or.inl rfl)
      have hy : ¬ y = J 0 := hy0
      simp only [if_n hy]
      by_cases h0 : g (14 + 11 * i) = 1
      · rw [if_p (by rw [h0])] at k ⊢
        rw [ob1_s, if_n n10]
        exact k
      · rw [if_n (J_ne h0 (by omega) (by decide))] at k ⊢
        rw [ob1_s, if_p rfl]
        exact k
  · rw [(C_checkL h.sim h8).2 q, ok_ocW, ok_ocU, ok_s, Sum.elim_inr, ok_s, Sum.elim_inr]
    show ok (if (1 : Nat) = 1 then some (J 1, d) else _) _
    rw [if_p rfl, ok_s]
    exact prb_fail h (Nat.le_refl D) 1 (by decide) (by decide) (fun hp => (M_admit hp h8 hA).1 q)
end CASE3
