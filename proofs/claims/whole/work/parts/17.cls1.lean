/-! 17: the class: copies of states, its undo stack -/
theorem cpy_in {α : Type} {f g : Nat → α} {n k : Nat} (h : k < n) : va_cpy f g 0 0 n k = f k := by
  unfold va_cpy
  rw [if_pos (by omega)]
  congr 1
  omega
theorem L_copy55 {a b : Nat} (hab : a + 25 ≤ b ∨ b + 25 ≤ a) (d : Dt) : f_L_copyFrom_55 a b (J 0) d = some (fun k => if a + 6 ≤ k ∧ k < a + 14 then va_cpy (d (b + (k - a))) (d k) 0 0 8 else d k) := by
  unfold f_L_copyFrom_55
  apply ok_eq
  refine iter_up 0 8 (fun i s => s = (J i, fun k => if a + 6 ≤ k ∧ k < a + 6 + i then va_cpy (d (b + (k - a))) (d k) 0 0 8 else d k)) ?_ (by decide) (by decide) ?_ ?_
  · congr 1
    funext k
    rw [if_n (by omega)]
  · intro i s hi hs
    subst hs
    show ok (st_L_copyFrom_55 a b (J i) _) _
    unfold st_L_copyFrom_55
    simp only [J_lit]
    simp (disch := omega) only [ite_true, ite_false, J_lit, J_add, J_mul, J_nat, J_inb, J_le, J_lt, J_inj, J_sub, J_div, gd_d, if_p, if_n, ob1_s, ob2_s, ir_s, ok_bnd, ok_s]
    refine Or.inl ⟨_, rfl, ?_⟩
    congr 1
    funext k
    unfold wrf
    by_cases h : k = a + 5 + 1 + i
    · rw [if_p h, if_p (by omega : a + 6 ≤ k ∧ k < a + 6 + (i + 1)), h, show b + (a + 5 + 1 + i - a) = b + 5 + 1 + i by omega]
    · rw [if_n h]
      dsimp only
      by_cases h2 : a + 6 ≤ k ∧ k < a + 6 + i
      · rw [if_p h2, if_p (by omega)]
      · rw [if_n h2, if_n (by omega)]
  · intro s hs
    subst hs
    show ok (st_L_copyFrom_55 a b (J 8) _) _
    unfold st_L_copyFrom_55
    simp only [J_lit]
    simp (disch := omega) only [ite_true, ite_false, J_lit, J_add, J_mul, J_nat, J_inb, J_le, J_lt, J_inj, J_sub, J_div, gd_d, if_p, if_n, ob1_s, ob2_s, ir_s, ok_ir, ok_s]
    exact ⟨_, rfl, rfl⟩
theorem nar_bt {x : Int32} (h : x = J 0 ∨ x = J 1) : nar .boolean x = true := by
  rcases h with h | h
  · rw [h]; exact nar_b0
  · rw [h]; exact nar_b1
theorem T_copy40 {a b : Nat} (hab : a + 25 ≤ b ∨ b + 25 ≤ a) (d : Dt) (hb : ∀ j, j < 12 → d (b + 23) j = J 0 ∨ d (b + 23) j = J 1) : f_T_copyFrom_40 a b (J 0) d = some (wrf d (a + 23) (fun q => if q < 12 then d (b + 23) q else d (a + 23) q)) := by
  unfold f_T_copyFrom_40
  apply ok_eq
  refine iter_up 0 12 (fun i s => s = (J i, wrf d (a + 23) (fun q => if q < i then d (b + 23) q else d (a + 23) q))) ?_ (by decide) (by decide) ?_ ?_
  · congr 1
    have e : (fun q => if q < 0 then d (b + 23) q else d (a + 23) q) = d (a + 23) := by
      funext q
      rw [if_n (by omega)]
    rw [e, wrf_self]
  · intro i s hi hs
    subst hs
    show ok (st_T_copyFrom_40 a b (J i) _) _
    unfold st_T_copyFrom_40
    simp only [J_lit]
    simp (disch := omega) only [ite_true, ite_false, J_lit, J_add, J_mul, J_nat, J_inb, J_le, J_lt, J_inj, J_sub, J_div, gd_d, if_p, if_n, ob1_s, ob2_s, ir_s, wrf_k]
    rw [gd_t1 (nar_bt (hb i hi)), ok_bnd, ok_s]
    refine Or.inl ⟨_, rfl, ?_⟩
    rw [wr_wrf, wrf_wrf, wrf_i]
    congr 2
    funext q
    unfold upd
    dsimp only
    by_cases h : q = i
    · rw [if_p h, if_p (by omega), h]
    · rw [if_n h]
      by_cases h2 : q < i
      · rw [if_p h2, if_p (by omega)]
      · rw [if_n h2, if_n (by omega)]
  · intro s hs
    subst hs
    show ok (st_T_copyFrom_40 a b (J 12) _) _
    unfold st_T_copyFrom_40
    simp only [J_lit]
    simp (disch := omega) only [ite_true, ite_false, J_lit, J_add, J_mul, J_nat, J_inb, J_le, J_lt, J_inj, J_sub, J_div, gd_d, if_p, if_n, ob1_s, ob2_s, ir_s, ok_ir, ok_s]
    exact ⟨_, rfl, rfl⟩
theorem Sim_bt {d : Dt} {b : Nat} {g : Nat → Nat} (h : Sim d b g) : ∀ j, j < 12 → d (b + 23) j = J 0 ∨ d (b + 23) j = J 1 := fun _ hj => h.bt hj
/-- the cells that a state's picture rests on are alike -/
def alike (d' : Dt) (a : Nat) (d : Dt) (b : Nat) : Prop :=
  (d' a 0 = d b 0 ∧ d' (a + 1) 0 = d (b + 1) 0 ∧ d' (a + 14) 1 = d (b + 14) 1 ∧ d' (a + 14) 0 = d (b + 14) 0 ∧ d' (a + 20) 0 = d (b + 20) 0 ∧ d' a 5 = d b 5 ∧ d' a 4 = d b 4 ∧ d' a 7 = d b 7 ∧ d' a 8 = d b 8) ∧
  (∀ v, v < 4 → d' (a + 24) v = d (b + 24) v) ∧ (∀ i, i < 8 → d' (a + 2) i = d (b + 2) i ∧ d' (a + 3) i = d (b + 3) i ∧ d' (a + 4) i = d (b + 4) i) ∧ (∀ i j, i < 8 → j < 8 → d' (a + 6 + i) j = d (b + 6 + i) j) ∧
  (∀ k, k < 10 → d' (a + 15) k = d (b + 15) k ∧ d' (a + 16) k = d (b + 16) k ∧ d' (a + 17) k = d (b + 17) k ∧ d' (a + 18) k = d (b + 18) k ∧ d' (a + 19) k = d (b + 19) k) ∧
  (∀ k, k < 12 → d' (a + 21) k = d (b + 21) k ∧ d' (a + 22) k = d (b + 22) k ∧ d' (a + 23) k = d (b + 23) k)
theorem Sim.alike {d d' : Dt} {a b D : Nat} {g : Nat → Nat} (h : Sim d b g) (hw : WF D g) (q : alike d' a d b) : Sim d' a g := by
  obtain ⟨⟨q1, q2, q3, q4, q5, q6, q7, q8, q9⟩, r1, r2, r3, r4, r5⟩ := q
  have h8 := hw.nl
  have h10 := hw.nb
  have h12 := hw.ns
  refine ⟨⟨q1.trans h.day, q2.trans h.nl, q3.trans h.nx, q4.trans h.nb, q5.trans h.ns, q6.trans h.pd, q7.trans h.fs, q8.trans h.lp, q9.trans h.sd⟩, fun v hv => (r1 v hv).trans (h.hd hv), fun i hi => ⟨(r2 i (by omega)).1.trans (h.bri hi), (r2 i (by omega)).2.1.trans (h.adm hi), (r2 i (by omega)).2.2.trans (h.sc hi), fun j hj => (r3 i j (by omega) (by have := hw.sc hi; omega)).trans (h.sen hi hj)⟩, fun k hk => ⟨(r4 k (by omega)).1.trans (h.bid hk), (r4 k (by omega)).2.1.trans (h.bag hk), (r4 k (by omega)).2.2.1.trans (h.bld hk), (r4 k (by omega)).2.2.2.1.trans (h.bfe hk), (r4 k (by omega)).2.2.2.2.trans (h.bsv hk)⟩, fun k hk => ⟨(r5 k (by omega)).1.trans (h.sfi hk), (r5 k (by omega)).2.1.trans (h.sse hk), (r5 k (by omega)).2.2.trans (h.sto hk)⟩, fun k hk => ?_⟩
  rw [(r5 k hk).2.2]
  exact h.bt hk
theorem S_copyFrom {a b : Nat} (hab : a + 25 ≤ b ∨ b + 25 ≤ a) (d : Dt) (hb : ∀ j, j < 12 → d (b + 23) j = J 0 ∨ d (b + 23) j = J 1) : ok (f_S_copyFrom a b d) (fun d' => alike d' a d b ∧ ∀ k, k < a ∨ a + 25 ≤ k → d' k = d k) := by
  unfold f_S_copyFrom f_L_copyFrom f_B_copyFrom f_T_copyFrom
  simp only [J_lit]
  simp only [ok_bnd, ok_ob1, ok_s, L_copy55 hab]
  rw [T_copy40 hab _ (fun j hj => by
    simp (disch := omega) only [wr_k, wrf_k, if_n]
    exact hb j hj), ok_s]
  refine ⟨⟨⟨?_, ?_, ?_, ?_, ?_, ?_, ?_, ?_, ?_⟩, fun v hv => ?_, fun i hi => ⟨?_, ?_, ?_⟩, fun i j hi hj => ?_, fun k hk => ⟨?_, ?_, ?_, ?_, ?_⟩, fun k hk => ⟨?_, ?_, ?_⟩⟩, fun k hk => ?_⟩
  all_goals simp (disch := omega) only [wr_s, wr_j, wr_k, wrf_i, wrf_k, if_n, if_p, cpy_in]
  rw [show b + (a + 6 + i - a) = b + 6 + i by omega]
