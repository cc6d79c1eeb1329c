/-! 21: the class's changes of a state: giving back, statements, admissions, sentences -/
theorem Sim_pd {d : Dt} {g : Nat → Nat} (v : Nat) (hS : Sim d 2 g) : Sim (wr d 2 5 (J v)) 2 (updG g 5 v) := by
  have an : ∀ q, q ≠ 5 → updG g 5 v q = g q := fun q h => updG_n h
  have dk : ∀ k, k ≠ 2 → wr d 2 5 (J v) k = d k := fun k h => wr_k h
  refine Sim_mk ?_ (hS.H.cong (dk _ (by decide)) (fun v hv => an _ (by omega))) (fun i hi => ?_) (fun k hk => ?_) (fun k hk => ?_) (hS.T.cong (dk _ (by decide)))
  · unfold sgA
    rw [an 0 (by decide), an 1 (by decide), an 2 (by decide), an 3 (by decide), an 4 (by decide), an 6 (by decide), an 11 (by decide), an 12 (by decide), updG_s, dk (2 + 1) (by decide), dk (2 + 14) (by decide), dk (2 + 20) (by decide), wr_s, wr_j (by decide), wr_j (by decide), wr_j (by decide), wr_j (by decide)]
    exact ⟨hS.day, hS.nl, hS.nx, hS.nb, hS.ns, rfl, hS.fs, hS.lp, hS.sd⟩
  · rw [an 0 (by decide)] at hi
    rw [an _ (by omega), an _ (by omega), an (15 + 11 * i) (by omega), dk _ (by omega), dk _ (by omega), dk _ (by omega)]
    refine ⟨hS.bri hi, hS.adm hi, hS.sc hi, fun j hj => ?_⟩
    rw [an _ (by omega), dk _ (by omega)]
    exact hS.sen hi hj
  · rw [an 3 (by decide)] at hk
    rw [an _ (by omega), an _ (by omega), an _ (by omega), an _ (by omega), an _ (by omega), dk _ (by omega), dk _ (by omega), dk _ (by omega), dk _ (by omega), dk _ (by omega)]
    exact hS.B k hk
  · rw [an 4 (by decide)] at hk
    rw [an _ (by omega), an _ (by omega), an _ (by omega), dk _ (by omega), dk _ (by omega), dk _ (by omega)]
    exact hS.S k hk
theorem C_giveBack {d : Dt} {D p : Nat} {g : Nat → Nat} (hS : Sim d 2 g) (hw : WF D g) (hp : p < g 3) : ok (f_S_giveBack (J p) d) (fun z => z.1 = J (g (104 + 5 * p) / 2) ∧ Sim z.2 2 (backG g p) ∧ fr2 d z.2) := by
  have h10 := hw.nb
  have hb := hw.br hp
  have e1 : d 2 5 = J (g 5) := hS.pd
  have e2 : d 20 p = J (g (104 + 5 * p)) := hS.bfe hp
  unfold f_S_giveBack
  simp only [J_lit]
  simp (disch := omega) only [ite_true, ite_false, J_lit, J_add, J_mul, J_nat, J_inb, J_le, J_lt, J_inj, J_sub, J_div, gd_d, if_p, if_n, ob1_s, ob2_s, ir_s, e1, e2]
  rw [ok_bnd, ok_ob1]
  have h1 := Sim_pd (g 5 + g (104 + 5 * p) / 2) hS
  refine ok_mono (C_B_remove h1 (by rw [updG_n (by decide)]; exact hw.nl) (fun i hi => by
    rw [updG_n (by decide)] at hi
    rw [updG_n (by omega)]
    exact hw.sc hi) (by rw [updG_n (by decide)]; exact h10) (by rw [updG_n (by decide)]; exact hw.ns) (by rw [updG_n (by decide)]; exact hp)) (fun d' h => ?_)
  rw [ok_s]
  exact ⟨rfl, h.1, fun k hk => (h.2 k hk).trans (wr_k (by omega))⟩
theorem C_T_add {d : Dt} {D x y t : Nat} {g : Nat → Nat} (hS : Sim d 2 g) (hw : WF D g) (hn : g 4 < 12) (ht : t ≤ 1) : ok (f_T_add (J x) (J y) (J t) d) (fun z => z.1 = J (g 4) ∧ Sim z.2 2 (stG g x y t) ∧ fr2 d z.2) := by
  have e : d 22 0 = J (g 4) := hS.ns
  have h10 := hw.nb
  have ht2 : J t = J 0 ∨ J t = J 1 := by
    rcases (show t = 0 ∨ t = 1 by omega) with rfl | rfl
    · exact Or.inl rfl
    · exact Or.inr rfl
  unfold f_T_add
  simp only [J_lit]
  simp (disch := omega) only [ite_true, ite_false, J_lit, J_add, J_mul, J_nat, J_inb, J_le, J_lt, J_inj, J_sub, J_div, gd_d, if_p, if_n, ob1_s, ob2_s, ir_s, e, ok_bnd, wr_k]
  rw [gd_t1 (nar_bt ht2)]
  simp (disch := omega) only [ite_true, ite_false, J_lit, J_add, J_mul, J_nat, J_inb, J_le, J_lt, J_inj, J_sub, J_div, gd_d, if_p, if_n, ob1_s, ob2_s, ir_s, e, ok_bnd, wr_k, ok_s, wr_s]
  have an : ∀ q, q ≠ 4 → (q < 151 + 3 * g 4 ∨ 154 + 3 * g 4 ≤ q) → stG g x y t q = g q := fun q h1 h2 => by
    unfold stG
    rw [updG_n h1, updG_n (by omega), updG_n (by omega), updG_n (by omega)]
  have a4 : stG g x y t 4 = g 4 + 1 := by unfold stG; rw [updG_s]
  refine ⟨by rw [Nat.add_sub_cancel], Sim_mk ?_ (hS.H.cong ?_ (fun v hv => an _ (by omega) (by omega))) (hS.L.cong hw (fun o h1 => ?_) (an 0 (by decide) (by omega)) (fun q h1 h2 => an q (by omega) (by omega))) (hS.B.cong (fun o h1 h2 => ?_) (an 3 (by decide) (by omega)) h10 (fun q h1 h2 => an q (by omega) (by omega))) (fun k hk => ?_) (fun k hk => ?_), fun k hk => ?_⟩
  · unfold sgA
    rw [a4, an 0 (by decide) (by omega), an 1 (by decide) (by omega), an 2 (by decide) (by omega), an 3 (by decide) (by omega), an 5 (by decide) (by omega), an 6 (by decide) (by omega), an 11 (by decide) (by omega), an 12 (by decide) (by omega)]
    simp (disch := omega) only [wr_k, wr_j]
    exact ⟨hS.day, hS.nl, hS.nx, hS.nb, wr_s, hS.pd, hS.fs, hS.lp, hS.sd⟩
  · simp (disch := omega) only [wr_k]
  · simp (disch := omega) only [wr_k]
  · simp (disch := omega) only [wr_k]
  · rw [a4] at hk
    by_cases hkn : k = g 4
    · subst hkn
      have b0 : stG g x y t (151 + 3 * g 4) = x := by unfold stG; rw [updG_n (by omega), updG_n (by omega), updG_n (by omega)]; exact updG_s
      have b1 : stG g x y t (152 + 3 * g 4) = y := by unfold stG; rw [updG_n (by omega), updG_n (by omega), show 152 + 3 * g 4 = 151 + 3 * g 4 + 1 by omega]; exact updG_s
      have b2 : stG g x y t (153 + 3 * g 4) = t := by unfold stG; rw [updG_n (by omega), show 153 + 3 * g 4 = 151 + 3 * g 4 + 2 by omega]; exact updG_s
      rw [b0, b1, b2]
      simp (disch := omega) only [wr_k]
      exact ⟨wr_s, wr_s, wr_s⟩
    · have hk2 : k < g 4 := by omega
      rw [an _ (by omega) (by omega), an _ (by omega) (by omega), an _ (by omega) (by omega)]
      simp (disch := omega) only [wr_k, wr_j]
      exact hS.S k hk2
  · simp (disch := omega) only [wr_k]
    show wr d 25 (g 4) (J t) 25 k = J 0 ∨ wr d 25 (g 4) (J t) 25 k = J 1
    rw [wr_i]
    by_cases hkn : k = g 4
    · rw [if_p hkn]; exact ht2
    · rw [if_n hkn]; exact hS.bt hk
  · simp (disch := omega) only [wr_k]
theorem C_T_remove {d : Dt} {D p : Nat} {g : Nat → Nat} (hS : Sim d 2 g) (hw : WF D g) (hp : p < g 4) : ok (f_T_remove (J p) d) (fun z => z.1 = J (g 4 - 1) ∧ Sim z.2 2 (dropG g p) ∧ fr2 d z.2) := by
  have e : d 22 0 = J (g 4) := hS.ns
  have h10 := hw.nb
  have h12 := hw.ns
  unfold f_T_remove f_T_remove_12
  simp only [J_lit]
  rw [e, J_sub (by omega), ok_bnd]
  refine ok_mono (Q := fun z => z.1 = J (g 4 - 1) ∧ (∀ k, k < 22 ∨ 26 ≤ k → z.2 k = d k) ∧ z.2 22 0 = J (g 4 - 1) ∧ (∀ o, 23 ≤ o → o < 26 → ∀ k, k < g 4 - 1 → z.2 o k = if p ≤ k then d o (k + 1) else d o k) ∧ ∀ k, k < 12 → z.2 25 k = J 0 ∨ z.2 25 k = J 1) ?_ (fun z h => ?_)
  · refine iter_up p (g 4 - 1) (fun i s => ∃ d5, s = (J i, d5) ∧ p ≤ i ∧ (∀ k, k < 22 ∨ 26 ≤ k → d5 k = d k) ∧ d5 22 0 = J (g 4 - 1) ∧ ∀ o, 23 ≤ o → o < 26 → ∀ k, d5 o k = if p ≤ k ∧ k < i then d o (k + 1) else d o k) ⟨_, rfl, Nat.le_refl _, fun k h1 => wr_k (by omega), wr_s, fun o h1 h2 k => ?_⟩ (by omega) (by omega) ?_ ?_
    · rw [wr_k (by omega), if_n (by omega)]
    · intro i s hi hs
      obtain ⟨d5, rfl, hip, q1, q2, q4⟩ := hs
      show ok (st_T_remove_12 (J i) d5) _
      unfold st_T_remove_12
      simp only [J_lit]
      simp (disch := omega) only [ite_true, ite_false, J_lit, J_add, J_mul, J_nat, J_inb, J_le, J_lt, J_inj, J_sub, J_div, gd_d, if_p, if_n, ob1_s, ob2_s, ir_s, q2, ok_bnd, ok_s, wr_k]
      have hn : nar .boolean (d5 25 (i + 1)) = true := nar_bt (by rw [q4 25 (by decide) (by decide), if_n (by omega)]; exact hS.bt (by omega))
      rw [gd_t1 hn, ok_bnd, ok_s]
      refine Or.inl ⟨_, rfl, _, rfl, by omega, fun k h1 => ?_, ?_, fun o h1 h2 k => ?_⟩
      · simp (disch := omega) only [wr_k]; exact q1 k h1
      · simp (disch := omega) only [wr_k]; exact q2
      · have key : ∀ o, 23 ≤ o → o < 26 → (if k = i then d5 o (i + 1) else d5 o k) = if p ≤ k ∧ k < i + 1 then d o (k + 1) else d o k := by
          intro o h1 h2
          by_cases hk : k = i
          · rw [if_p hk, if_p (by omega), q4 o h1 h2, if_n (by omega), hk]
          · rw [if_n hk, q4 o h1 h2]
            by_cases hk2 : p ≤ k ∧ k < i
            · rw [if_p hk2, if_p (by omega)]
            · rw [if_n hk2, if_n (by omega)]
        rcases (show o = 23 ∨ o = 24 ∨ o = 25 by omega) with rfl | rfl | rfl
        all_goals (try simp (disch := omega) only [wr_k])
        all_goals rw [wr_i]
        all_goals exact key _ (by decide) (by decide)
    · intro s hs
      obtain ⟨d5, rfl, hip, q1, q2, q4⟩ := hs
      show ok (st_T_remove_12 (J (g 4 - 1)) d5) _
      unfold st_T_remove_12
      simp only [J_lit]
      simp (disch := omega) only [ite_true, ite_false, J_lit, J_add, J_mul, J_nat, J_inb, J_le, J_lt, J_inj, J_sub, J_div, gd_d, if_p, if_n, ob1_s, ob2_s, ir_s, q2, ok_ir, ok_s]
      refine ⟨_, rfl, rfl, q1, q2, fun o h1 h2 k hk => ?_, fun k hk => ?_⟩
      · show d5 o k = _
        rw [q4 o h1 h2 k]
        by_cases hk2 : p ≤ k
        · rw [if_p hk2, if_p ⟨hk2, hk⟩]
        · rw [if_n hk2, if_n (by omega)]
      · show d5 25 k = _ ∨ d5 25 k = _
        rw [q4 25 (by decide) (by decide) k]
        by_cases hk2 : p ≤ k ∧ k < g 4 - 1
        · rw [if_p hk2]; exact hS.bt (by omega)
        · rw [if_n hk2]; exact hS.bt hk
  · obtain ⟨q0, q1, q2, q4, q5⟩ := h
    have an : ∀ q, q ≠ 4 → q < 151 → dropG g p q = g q := fun q h1 h2 => by unfold dropG; rw [if_n h1, if_n (by omega), if_n (by omega)]
    have a4 : dropG g p 4 = g 4 - 1 := by unfold dropG; rw [if_p rfl]
    refine ⟨q0, Sim_mk ?_ (hS.H.cong (q1 _ (by decide)) (fun v hv => an _ (by omega) (by omega))) (hS.L.cong hw (fun o h1 => q1 _ (by omega)) (an 0 (by decide) (by decide)) (fun q h1 h2 => an q (by omega) (by omega))) (hS.B.cong (fun o h1 h2 => q1 _ (by omega)) (an 3 (by decide) (by decide)) h10 (fun q h1 h2 => an q (by omega) (by omega))) (fun k hk => ?_) q5, fun k hk => q1 k (by omega)⟩
    · unfold sgA
      rw [a4, an 0 (by decide) (by decide), an 1 (by decide) (by decide), an 2 (by decide) (by decide), an 3 (by decide) (by decide), an 5 (by decide) (by decide), an 6 (by decide) (by decide), an 11 (by decide) (by decide), an 12 (by decide) (by decide), q1 2 (by decide), q1 (2 + 1) (by decide), q1 (2 + 14) (by decide)]
      exact ⟨hS.day, hS.nl, hS.nx, hS.nb, q2, hS.pd, hS.fs, hS.lp, hS.sd⟩
    · rw [a4] at hk
      have key : ∀ o c, 21 ≤ o → o < 24 → 151 ≤ c → c < 154 → (∀ k, k < g 4 → d (2 + o) k = J (g (c + 3 * k))) → z.2 (2 + o) k = J (dropG g p (c + 3 * k)) := by
        intro o c h1 h2 h3 h4 h5
        rw [q4 (2 + o) (by omega) (by omega) k hk]
        unfold dropG
        by_cases hk2 : p ≤ k
        · rw [if_p hk2, if_n (by omega), if_p (by omega), h5 _ (by omega)]
          congr 2
        · rw [if_n hk2, if_n (by omega), if_n (by omega), if_n (by omega), h5 _ (by omega)]
      exact ⟨key 21 151 (by decide) (by decide) (by decide) (by decide) (fun k hk => hS.sfi hk), key 22 152 (by decide) (by decide) (by decide) (by decide) (fun k hk => hS.sse hk), key 23 153 (by decide) (by decide) (by decide) (by decide) (fun k hk => hS.sto hk)⟩
theorem C_setAdmission {d : Dt} {D i v : Nat} {g : Nat → Nat} (hS : Sim d 2 g) (hw : WF D g) (hi : i < g 0) : ok (f_L_setAdmission (J i) (J v) d) (fun z => z.1 = J (g (14 + 11 * i)) ∧ Sim z.2 2 (admG g i v) ∧ fr2 d z.2) := by
  have h8 := hw.nl
  have h10 := hw.nb
  have h12 := hw.ns
  have e : d 5 i = J (g (14 + 11 * i)) := hS.adm hi
  unfold f_L_setAdmission
  simp (disch := omega) only [ite_true, ite_false, J_lit, J_add, J_mul, J_nat, J_inb, J_le, J_lt, J_inj, J_sub, J_div, gd_d, if_p, if_n, ob1_s, ob2_s, ir_s, e, ok_bnd, ok_s]
  have an : ∀ q, q ≠ 14 + 11 * i → admG g i v q = g q := fun q h => updG_n h
  refine ⟨trivial, Sim_mk ?_ (hS.H.cong (wr_k (by decide)) (fun v hv => an _ (by omega))) (fun k hk => ?_) (hS.B.cong (fun o h1 h2 => wr_k (by omega)) (an 3 (by omega)) h10 (fun q h1 h2 => an q (by omega))) (hS.S.cong (fun o h1 h2 => wr_k (by omega)) (an 4 (by omega)) h12 (fun q h1 h2 => an q (by omega))) (hS.T.cong (wr_k (by decide))), fun k hk => wr_k (by omega)⟩
  · unfold sgA
    rw [an 0 (by omega), an 1 (by omega), an 2 (by omega), an 3 (by omega), an 4 (by omega), an 5 (by omega), an 6 (by omega), an 11 (by omega), an 12 (by omega), wr_k (by decide), wr_k (by decide), wr_k (by decide), wr_k (by decide)]
    exact hS.A
  · rw [an 0 (by omega)] at hk
    have hsc := hw.sc hk
    rw [an (13 + 11 * k) (by omega), an (15 + 11 * k) (by omega), wr_k (k' := 2 + 2) (by decide), wr_k (k' := 2 + 4) (by decide)]
    refine ⟨hS.bri hk, ?_, hS.sc hk, fun j hj => ?_⟩
    · show wr d 5 i (J v) 5 k = _
      rw [wr_i]
      by_cases hki : k = i
      · rw [if_p hki, hki]
        unfold admG
        rw [updG_s]
      · rw [if_n hki, an _ (by omega)]
        exact hS.adm hk
    · rw [an _ (by omega), wr_k (by omega)]
      exact hS.sen hk hj
