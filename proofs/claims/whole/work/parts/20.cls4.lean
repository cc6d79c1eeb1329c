/-! 20: the class's changes of a state: briefs -/
theorem C_takeBrief {d : Dt} {D i n f s : Nat} {g : Nat → Nat} (hS : Sim d 2 g) (hw : WF D g) (hD : D < 100000) (hb : g 3 < 10) : ok (f_S_takeBrief (J i) (J n) (J f) (J s) d) (fun z => z.1 = J (g 2) ∧ Sim z.2 2 (fileG g i n f s) ∧ fr2 d z.2) := by
  have e : d 16 0 = J (g 3) := hS.nb
  have e1 : d 16 1 = J (g 2) := hS.nx
  have e2 : d 2 0 = J (g 1) := hS.day
  have e3 : d 2 4 = J (g 6) := hS.fs
  have h8 := hw.nl
  have h12 := hw.ns
  have hnx := hw.nx
  unfold f_S_takeBrief f_B_add
  simp only [J_lit]
  simp (disch := omega) only [ite_true, ite_false, J_lit, J_add, J_mul, J_nat, J_inb, J_le, J_lt, J_inj, J_sub, J_div, gd_d, if_p, if_n, ob1_s, ob2_s, ir_s, e, e1, e2, e3, ok_bnd, ok_ob2, wr_k, wr_j, ok_s, wr_s]
  have an : ∀ q, q ≠ 2 → q ≠ 3 → q ≠ 6 → (q < 101 + 5 * g 3 ∨ 106 + 5 * g 3 ≤ q) → fileG g i n f s q = g q := fun q h1 h2 h3 h4 => by
    unfold fileG
    rw [updG_n h3, updG_n h1, updG_n h2, updG_n (by omega), updG_n (by omega), updG_n (by omega), updG_n (by omega), updG_n (by omega)]
  have a2 : fileG g i n f s 2 = g 2 + 1 := by unfold fileG; rw [updG_n (by decide), updG_s]
  have a3 : fileG g i n f s 3 = g 3 + 1 := by unfold fileG; rw [updG_n (by decide), updG_n (by decide), updG_s]
  have a6 : fileG g i n f s 6 = g 6 + f := by unfold fileG; rw [updG_s]
  refine ⟨by rw [Nat.add_sub_cancel], Sim_mk ?_ (hS.H.cong ?_ (fun v hv => an _ (by omega) (by omega) (by omega) (by omega))) (hS.L.cong hw (fun o h1 => ?_) (an 0 (by decide) (by decide) (by decide) (by omega)) (fun q h1 h2 => an q (by omega) (by omega) (by omega) (by omega))) ?_ (hS.S.cong (fun o h1 h2 => ?_) (an 4 (by decide) (by decide) (by decide) (by omega)) h12 (fun q h1 h2 => an q (by omega) (by omega) (by omega) (by omega))) (hS.T.cong ?_), fun k hk => ?_⟩
  · unfold sgA
    rw [a2, a3, a6, an 0 (by decide) (by decide) (by decide) (by omega), an 1 (by decide) (by decide) (by decide) (by omega), an 4 (by decide) (by decide) (by decide) (by omega), an 5 (by decide) (by decide) (by decide) (by omega), an 11 (by decide) (by decide) (by decide) (by omega), an 12 (by decide) (by decide) (by decide) (by omega)]
    simp (disch := omega) only [wr_k, wr_j]
    exact ⟨hS.day, hS.nl, wr_s, wr_s, hS.ns, hS.pd, wr_s, hS.lp, hS.sd⟩
  · simp (disch := omega) only [wr_k]
  · simp (disch := omega) only [wr_k]
  · intro k hk
    rw [a3] at hk
    by_cases hkn : k = g 3
    · subst hkn
      have b0 : fileG g i n f s (101 + 5 * g 3) = g 2 := by unfold fileG; rw [updG_n (by omega), updG_n (by omega), updG_n (by omega), updG_n (by omega), updG_n (by omega), updG_n (by omega), updG_n (by omega)]; exact updG_s
      have b1 : fileG g i n f s (102 + 5 * g 3) = i := by unfold fileG; rw [updG_n (by omega), updG_n (by omega), updG_n (by omega), updG_n (by omega), updG_n (by omega), updG_n (by omega)]; rw [show 102 + 5 * g 3 = 101 + 5 * g 3 + 1 by omega]; exact updG_s
      have b2 : fileG g i n f s (103 + 5 * g 3) = g 1 + n := by unfold fileG; rw [updG_n (by omega), updG_n (by omega), updG_n (by omega), updG_n (by omega), updG_n (by omega)]; rw [show 103 + 5 * g 3 = 101 + 5 * g 3 + 2 by omega]; exact updG_s
      have b3 : fileG g i n f s (104 + 5 * g 3) = f := by unfold fileG; rw [updG_n (by omega), updG_n (by omega), updG_n (by omega), updG_n (by omega)]; rw [show 104 + 5 * g 3 = 101 + 5 * g 3 + 3 by omega]; exact updG_s
      have b4 : fileG g i n f s (105 + 5 * g 3) = s := by unfold fileG; rw [updG_n (by omega), updG_n (by omega), updG_n (by omega)]; rw [show 105 + 5 * g 3 = 101 + 5 * g 3 + 4 by omega]; exact updG_s
      rw [b0, b1, b2, b3, b4]
      simp (disch := omega) only [wr_k]
      exact ⟨wr_s, wr_s, wr_s, wr_s, wr_s⟩
    · have hk2 : k < g 3 := by omega
      rw [an _ (by omega) (by omega) (by omega) (by omega), an _ (by omega) (by omega) (by omega) (by omega), an _ (by omega) (by omega) (by omega) (by omega), an _ (by omega) (by omega) (by omega) (by omega), an _ (by omega) (by omega) (by omega) (by omega)]
      simp (disch := omega) only [wr_k, wr_j]
      exact hS.B k hk2
  · simp (disch := omega) only [wr_k]
  · simp (disch := omega) only [wr_k]
  · simp (disch := omega) only [wr_k]
/-- the loop that moves the briefs behind a place -/
theorem C_B_remove {d : Dt} {p : Nat} {g : Nat → Nat} (hS : Sim d 2 g) (h8 : g 0 ≤ 8) (hsc : ∀ i, i < g 0 → g (15 + 11 * i) ≤ 8) (h10 : g 3 ≤ 10) (h12 : g 4 ≤ 12) (hp : p < g 3) : ok (f_B_remove (J p) d) (fun d' => Sim d' 2 (goesG g p) ∧ fr2 d d') := by
  have e : d 16 0 = J (g 3) := hS.nb
  unfold f_B_remove f_B_remove_12
  simp only [J_lit]
  rw [e, J_sub (by omega), ok_bnd]
  refine ok_mono (Q := fun d' => (∀ k, k ≠ 16 → (k < 17 ∨ 22 ≤ k) → d' k = d k) ∧ d' 16 0 = J (g 3 - 1) ∧ d' 16 1 = d 16 1 ∧ ∀ o, 17 ≤ o → o < 22 → ∀ k, k < g 3 - 1 → d' o k = if p ≤ k then d o (k + 1) else d o k) ?_ (fun d' h => ?_)
  · refine iter_up p (g 3 - 1) (fun i s => ∃ d5, s = (J i, d5) ∧ p ≤ i ∧ (∀ k, k ≠ 16 → (k < 17 ∨ 22 ≤ k) → d5 k = d k) ∧ d5 16 0 = J (g 3 - 1) ∧ d5 16 1 = d 16 1 ∧ ∀ o, 17 ≤ o → o < 22 → ∀ k, d5 o k = if p ≤ k ∧ k < i then d o (k + 1) else d o k) ⟨_, rfl, Nat.le_refl _, fun k h1 h2 => wr_k h1, wr_s, wr_j (by decide), fun o h1 h2 k => ?_⟩ (by omega) (by omega) ?_ ?_
    · rw [wr_k (by omega), if_n (by omega)]
    · intro i s hi hs
      obtain ⟨d5, rfl, hip, q1, q2, q3, q4⟩ := hs
      show ok (st_B_remove_12 (J i) d5) _
      unfold st_B_remove_12
      simp only [J_lit]
      simp (disch := omega) only [ite_true, ite_false, J_lit, J_add, J_mul, J_nat, J_inb, J_le, J_lt, J_inj, J_sub, J_div, gd_d, if_p, if_n, ob1_s, ob2_s, ir_s, q2, ok_bnd, ok_s, wr_k]
      refine Or.inl ⟨_, rfl, _, rfl, by omega, fun k h1 h2 => ?_, ?_, ?_, fun o h1 h2 k => ?_⟩
      · simp (disch := omega) only [wr_k]; exact q1 k h1 h2
      · simp (disch := omega) only [wr_k]; exact q2
      · simp (disch := omega) only [wr_k]; exact q3
      · have key : ∀ o, 17 ≤ o → o < 22 → (if k = i then d5 o (i + 1) else d5 o k) = if p ≤ k ∧ k < i + 1 then d o (k + 1) else d o k := by
          intro o h1 h2
          by_cases hk : k = i
          · rw [if_p hk, if_p (by omega), q4 o h1 h2, if_n (by omega), hk]
          · rw [if_n hk, q4 o h1 h2]
            by_cases hk2 : p ≤ k ∧ k < i
            · rw [if_p hk2, if_p (by omega)]
            · rw [if_n hk2, if_n (by omega)]
        rcases (show o = 17 ∨ o = 18 ∨ o = 19 ∨ o = 20 ∨ o = 21 by omega) with rfl | rfl | rfl | rfl | rfl
        all_goals (try simp (disch := omega) only [wr_k])
        all_goals rw [wr_i]
        all_goals exact key _ (by decide) (by decide)
    · intro s hs
      obtain ⟨d5, rfl, hip, q1, q2, q3, q4⟩ := hs
      show ok (st_B_remove_12 (J (g 3 - 1)) d5) _
      unfold st_B_remove_12
      simp only [J_lit]
      simp (disch := omega) only [ite_true, ite_false, J_lit, J_add, J_mul, J_nat, J_inb, J_le, J_lt, J_inj, J_sub, J_div, gd_d, if_p, if_n, ob1_s, ob2_s, ir_s, q2, ok_ir, ok_s]
      refine ⟨_, rfl, q1, q2, q3, fun o h1 h2 k hk => ?_⟩
      rw [q4 o h1 h2 k]
      by_cases hk2 : p ≤ k
      · rw [if_p hk2, if_p ⟨hk2, hk⟩]
      · rw [if_n hk2, if_n (by omega)]
  · obtain ⟨q1, q2, q3, q4⟩ := h
    have an : ∀ q, q ≠ 3 → (q < 101 ∨ 151 ≤ q) → goesG g p q = g q := fun q h1 h2 => by unfold goesG; rw [if_n h1, if_n (by omega), if_n (by omega)]
    have a3 : goesG g p 3 = g 3 - 1 := by unfold goesG; rw [if_p rfl]
    have dk : ∀ k, k < 16 ∨ 22 ≤ k → d' k = d k := fun k hk => q1 k (by omega) (by omega)
    refine ⟨Sim_mk ?_ (hS.H.cong (dk _ (by decide)) (fun v hv => an _ (by omega) (by omega))) (fun i hi => ?_) (fun k hk => ?_) (hS.S.cong (fun o h1 h2 => dk _ (by omega)) (an 4 (by decide) (by decide)) h12 (fun q h1 h2 => an q (by omega) (by omega))) (hS.T.cong (dk _ (by decide))), fun k hk => dk k (by omega)⟩
    · unfold sgA
      rw [a3, an 0 (by decide) (by decide), an 1 (by decide) (by decide), an 2 (by decide) (by decide), an 4 (by decide) (by decide), an 5 (by decide) (by decide), an 6 (by decide) (by decide), an 11 (by decide) (by decide), an 12 (by decide) (by decide), dk 2 (by decide), dk 3 (by decide), dk 22 (by decide)]
      exact ⟨hS.day, hS.nl, q3.trans hS.nx, q2, hS.ns, hS.pd, hS.fs, hS.lp, hS.sd⟩
    · rw [an 0 (by decide) (by decide)] at hi
      have h9 := hsc i hi
      rw [an _ (by omega) (by omega), an _ (by omega) (by omega), an (15 + 11 * i) (by omega) (by omega), dk (2 + 2) (by decide), dk (2 + 3) (by decide), dk (2 + 4) (by decide)]
      refine ⟨hS.bri hi, hS.adm hi, hS.sc hi, fun j hj => ?_⟩
      rw [an _ (by omega) (by omega), dk _ (by omega)]
      exact hS.sen hi hj
    · rw [a3] at hk
      have key : ∀ o c, 15 ≤ o → o < 20 → 101 ≤ c → c < 106 → (∀ k, k < g 3 → d (2 + o) k = J (g (c + 5 * k))) → d' (2 + o) k = J (goesG g p (c + 5 * k)) := by
        intro o c h1 h2 h3 h4 h5
        rw [q4 (2 + o) (by omega) (by omega) k hk]
        unfold goesG
        by_cases hk2 : p ≤ k
        · rw [if_p hk2, if_n (by omega), if_p (by omega), h5 _ (by omega)]
          congr 2
        · rw [if_n hk2, if_n (by omega), if_n (by omega), if_n (by omega), h5 _ (by omega)]
      exact ⟨key 15 101 (by decide) (by decide) (by decide) (by decide) (fun k hk => hS.bid hk), key 16 102 (by decide) (by decide) (by decide) (by decide) (fun k hk => hS.bag hk), key 17 103 (by decide) (by decide) (by decide) (by decide) (fun k hk => hS.bld hk), key 18 104 (by decide) (by decide) (by decide) (by decide) (fun k hk => hS.bfe hk), key 19 105 (by decide) (by decide) (by decide) (by decide) (fun k hk => hS.bsv hk)⟩
