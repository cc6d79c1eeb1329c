/-! 19: the class's changes of a state -/
def sgA (d : Dt) (a : Nat) (g : Nat → Nat) : Prop := d a 0 = J (g 1) ∧ d (a + 1) 0 = J (g 0) ∧ d (a + 14) 1 = J (g 2) ∧ d (a + 14) 0 = J (g 3) ∧ d (a + 20) 0 = J (g 4) ∧ d a 5 = J (g 5) ∧ d a 4 = J (g 6) ∧ d a 7 = J (g 11) ∧ d a 8 = J (g 12)
def sgH (d : Dt) (a : Nat) (g : Nat → Nat) : Prop := ∀ v, v < 4 → d (a + 24) v = J (g (7 + v))
def sgL (d : Dt) (a : Nat) (g : Nat → Nat) : Prop := ∀ i, i < g 0 → d (a + 2) i = J (g (13 + 11 * i)) ∧ d (a + 3) i = J (g (14 + 11 * i)) ∧ d (a + 4) i = J (g (15 + 11 * i)) ∧ ∀ j, j < g (15 + 11 * i) → d (a + 6 + i) j = J (g (16 + 11 * i + j))
def sgB (d : Dt) (a : Nat) (g : Nat → Nat) : Prop := ∀ k, k < g 3 → d (a + 15) k = J (g (101 + 5 * k)) ∧ d (a + 16) k = J (g (102 + 5 * k)) ∧ d (a + 17) k = J (g (103 + 5 * k)) ∧ d (a + 18) k = J (g (104 + 5 * k)) ∧ d (a + 19) k = J (g (105 + 5 * k))
def sgS (d : Dt) (a : Nat) (g : Nat → Nat) : Prop := ∀ k, k < g 4 → d (a + 21) k = J (g (151 + 3 * k)) ∧ d (a + 22) k = J (g (152 + 3 * k)) ∧ d (a + 23) k = J (g (153 + 3 * k))
def sgT (d : Dt) (a : Nat) : Prop := ∀ k, k < 12 → d (a + 23) k = J 0 ∨ d (a + 23) k = J 1
theorem Sim_mk {d : Dt} {a : Nat} {g : Nat → Nat} (h1 : sgA d a g) (h2 : sgH d a g) (h3 : sgL d a g) (h4 : sgB d a g) (h5 : sgS d a g) (h6 : sgT d a) : Sim d a g := ⟨h1, h2, h3, h4, h5, h6⟩
theorem Sim.A {d : Dt} {a : Nat} {g : Nat → Nat} (h : Sim d a g) : sgA d a g := h.1
theorem Sim.H {d : Dt} {a : Nat} {g : Nat → Nat} (h : Sim d a g) : sgH d a g := h.2.1
theorem Sim.L {d : Dt} {a : Nat} {g : Nat → Nat} (h : Sim d a g) : sgL d a g := h.2.2.1
theorem Sim.B {d : Dt} {a : Nat} {g : Nat → Nat} (h : Sim d a g) : sgB d a g := h.2.2.2.1
theorem Sim.S {d : Dt} {a : Nat} {g : Nat → Nat} (h : Sim d a g) : sgS d a g := h.2.2.2.2.1
theorem Sim.T {d : Dt} {a : Nat} {g : Nat → Nat} (h : Sim d a g) : sgT d a := h.2.2.2.2.2
theorem sgH.cong {d d' : Dt} {a : Nat} {g g' : Nat → Nat} (h : sgH d a g) (hq : d' (a + 24) = d (a + 24)) (hg : ∀ v, v < 4 → g' (7 + v) = g (7 + v)) : sgH d' a g' := fun v hv => by rw [hq, hg v hv]; exact h v hv
theorem sgB.cong {d d' : Dt} {a : Nat} {g g' : Nat → Nat} (h : sgB d a g) (hq : ∀ o, 15 ≤ o → o < 20 → d' (a + o) = d (a + o)) (h3 : g' 3 = g 3) (h10 : g 3 ≤ 10) (hg : ∀ q, 101 ≤ q → q < 151 → g' q = g q) : sgB d' a g' := fun k hk => by
  rw [h3] at hk
  rw [hq 15 (by decide) (by decide), hq 16 (by decide) (by decide), hq 17 (by decide) (by decide), hq 18 (by decide) (by decide), hq 19 (by decide) (by decide), hg _ (by omega) (by omega), hg _ (by omega) (by omega), hg _ (by omega) (by omega), hg _ (by omega) (by omega), hg _ (by omega) (by omega)]
  exact h k hk
theorem sgS.cong {d d' : Dt} {a : Nat} {g g' : Nat → Nat} (h : sgS d a g) (hq : ∀ o, 21 ≤ o → o < 24 → d' (a + o) = d (a + o)) (h4 : g' 4 = g 4) (h12 : g 4 ≤ 12) (hg : ∀ q, 151 ≤ q → q < 187 → g' q = g q) : sgS d' a g' := fun k hk => by
  rw [h4] at hk
  rw [hq 21 (by decide) (by decide), hq 22 (by decide) (by decide), hq 23 (by decide) (by decide), hg _ (by omega) (by omega), hg _ (by omega) (by omega), hg _ (by omega) (by omega)]
  exact h k hk
theorem sgT.cong {d d' : Dt} {a : Nat} (h : sgT d a) (hq : d' (a + 23) = d (a + 23)) : sgT d' a := fun k hk => by rw [hq]; exact h k hk
theorem sgL.cong {d d' : Dt} {a D : Nat} {g g' : Nat → Nat} (h : sgL d a g) (hw : WF D g) (hq : ∀ o, (2 ≤ o ∧ o < 5) ∨ (6 ≤ o ∧ o < 14) → d' (a + o) = d (a + o)) (h0 : g' 0 = g 0) (hg : ∀ q, 13 ≤ q → q < 101 → g' q = g q) : sgL d' a g' := fun i hi => by
  have h8 := hw.nl
  rw [h0] at hi
  have hsc := hw.sc hi
  obtain ⟨a1, a2, a3, a4⟩ := h i hi
  rw [hq 2 (by omega), hq 3 (by omega), hq 4 (by omega), hg _ (by omega) (by omega), hg _ (by omega) (by omega), hg (15 + 11 * i) (by omega) (by omega)]
  refine ⟨a1, a2, a3, fun j hj => ?_⟩
  rw [hg _ (by omega) (by omega), Nat.add_assoc, hq (6 + i) (by omega), ← Nat.add_assoc]
  exact a4 j hj
/-- what a change of the present state leaves: the other cells -/
def fr2 (d d' : Dt) : Prop := ∀ k, k < 2 ∨ 27 ≤ k → d' k = d k
theorem C_L_add {d : Dt} {D : Nat} {g : Nat → Nat} (hS : Sim d 2 g) (hw : WF D g) (hn : g 0 < 8) : ok (f_L_add d) (fun z => z.1 = J (g 0) ∧ Sim z.2 2 (addG g) ∧ fr2 d z.2) := by
  have e : d 3 0 = J (g 0) := hS.nl
  have h10 := hw.nb
  have h12 := hw.ns
  unfold f_L_add
  simp only [J_lit]
  simp (disch := omega) only [ite_true, ite_false, J_lit, J_add, J_mul, J_nat, J_inb, J_le, J_lt, J_inj, J_sub, J_div, gd_d, if_p, if_n, ob1_s, ob2_s, ir_s, e, ok_bnd, wr_k, ok_s, wr_s]
  have a0 : addG g 0 = g 0 + 1 := by unfold addG; rw [if_p rfl]
  have an : ∀ q, q ≠ 0 → (q < 13 ∨ 101 ≤ q) → addG g q = g q := fun q h1 h2 => by unfold addG; rw [if_n h1, if_n (by omega)]
  refine ⟨by rw [Nat.add_sub_cancel], Sim_mk ?_ (hS.H.cong ?_ (fun v hv => an _ (by omega) (by omega))) ?_ (hS.B.cong (fun o h1 h2 => ?_) (an 3 (by decide) (by decide)) h10 (fun q h1 h2 => an q (by omega) (by omega))) (hS.S.cong (fun o h1 h2 => ?_) (an 4 (by decide) (by decide)) h12 (fun q h1 h2 => an q (by omega) (by omega))) (hS.T.cong ?_), fun k hk => ?_⟩
  · unfold sgA
    rw [a0, an 1 (by decide) (by decide), an 2 (by decide) (by decide), an 3 (by decide) (by decide), an 4 (by decide) (by decide), an 5 (by decide) (by decide), an 6 (by decide) (by decide), an 11 (by decide) (by decide), an 12 (by decide) (by decide)]
    simp (disch := omega) only [wr_k]
    refine ⟨hS.day, ?_, hS.nx, hS.nb, hS.ns, hS.pd, hS.fs, hS.lp, hS.sd⟩
    exact wr_s
  · simp (disch := omega) only [wr_k]
  · intro i hi
    rw [a0] at hi
    by_cases hin : i = g 0
    · subst hin
      have b1 : addG g (13 + 11 * g 0) = 9 := by unfold addG; rw [if_n (by omega), if_p (by omega), if_p rfl]
      have b2 : addG g (14 + 11 * g 0) = 0 := by unfold addG; rw [if_n (by omega), if_p (by omega), if_n (by omega)]
      have b3 : addG g (15 + 11 * g 0) = 0 := by unfold addG; rw [if_n (by omega), if_p (by omega), if_n (by omega)]
      rw [b1, b2, b3]
      simp (disch := omega) only [wr_k]
      exact ⟨wr_s, wr_s, wr_s, fun j hj => absurd hj (Nat.not_lt_zero j)⟩
    · have hi2 : i < g 0 := by omega
      have hsc := hw.sc hi2
      have c : ∀ q, 13 + 11 * i ≤ q → q < 24 + 11 * i → addG g q = g q := fun q h1 h2 => by unfold addG; rw [if_n (by omega), if_n (by omega)]
      rw [c _ (by omega) (by omega), c _ (by omega) (by omega), c (15 + 11 * i) (by omega) (by omega)]
      refine ⟨?_, ?_, ?_, fun j hj => ?_⟩
      · simp (disch := omega) only [wr_k, wr_j]; exact hS.bri hi2
      · simp (disch := omega) only [wr_k, wr_j]; exact hS.adm hi2
      · simp (disch := omega) only [wr_k, wr_j]; exact hS.sc hi2
      · rw [c _ (by omega) (by omega)]; simp (disch := omega) only [wr_k]; exact hS.sen hi2 hj
  · simp (disch := omega) only [wr_k]
  · simp (disch := omega) only [wr_k]
  · simp (disch := omega) only [wr_k]
  · simp (disch := omega) only [wr_k]
