/-! 43: the class's groups: the admissions -/
section CLAIM
variable {D : Nat} {d d1 : Dt} {g l s c : Nat → Nat} {m : Int32} {i n r v : Nat} {S : Nat → Prop}
/-- an admission as the leader sees it -/
def sw (g s : Nat → Nat) (i : Nat) : Nat := if g (14 + 11 * i) = 0 then 0 else if s i = 1 then 3 - g (14 + 11 * i) else g (14 + 11 * i)
def cm (g l s : Nat → Nat) (v r : Nat) : Nat → Bool := anyN (fun i => (l i == r) && (sw g s i == v))
def clm (g l s : Nat → Nat) (r n : Nat) : Nat := (if cm g l s 1 r n then 1 else 0) + (if cm g l s 2 r n then 2 else 0)
theorem sw_le (h : g (14 + 11 * i) ≤ 2) : sw g s i ≤ 2 := by
  unfold sw
  by_cases q : g (14 + 11 * i) = 0
  · rw [if_p q]; omega
  · rw [if_n q]
    by_cases q2 : s i = 1
    · rw [if_p q2]; omega
    · rw [if_n q2]; exact h
theorem clm_le : clm g l s r n ≤ 3 := by
  unfold clm
  cases cm g l s 1 r n <;> cases cm g l s 2 r n <;> decide
theorem clm_step (h : sw g s n ≤ 2) : clm g l s r (n + 1) = if l n = r then clm g l s r n ||| sw g s n else clm g l s r n := by
  have e : ∀ v, cm g l s v r (n + 1) = (cm g l s v r n || ((l n == r) && (sw g s n == v))) := fun _ => rfl
  unfold clm
  rw [e 1, e 2]
  generalize cm g l s 1 r n = b1
  generalize cm g l s 2 r n = b2
  by_cases q : l n = r
  · rw [if_p q, q, beq_self_eq_true]
    rcases (by omega : sw g s n = 0 ∨ sw g s n = 1 ∨ sw g s n = 2) with h | h | h <;> rw [h] <;> cases b1 <;> cases b2 <;> decide
  · rw [if_n q, beq_eq_false_iff_ne.mpr q, Bool.false_and, Bool.false_and, Bool.or_false, Bool.or_false]
theorem clm_zero : clm g l s r 0 = 0 := rfl
theorem G_seen (h : GS d n l s c) (hi : i < n) (hv : v ≤ 3) : f_G_seenByLeader (J i) (J v) d = some (J (if s i = 1 then 3 - v else v)) := by
  obtain ⟨h1, h2, h3⟩ := h
  obtain ⟨a1, a2, a3, a4, a5, a6⟩ := h3 i hi
  unfold f_G_seenByLeader
  simp only [J_lit]
  rw [J_inb (by omega), gd_d (by omega), J_nat (by omega), a5]
  by_cases q : s i = 1
  · rw [if_p (by rw [q]), if_p q, J_sub hv]
  · rw [if_n (J_ne q (by omega) (by decide)), if_n q]
theorem GS.same (h : GS d n l s c) (hq : ∀ k, 281 ≤ k → k < 285 → d1 k = d k) : GS d1 n l s c := by
  obtain ⟨h1, h2, h3⟩ := h
  refine ⟨by rw [hq 281 (by decide) (by decide)]; exact h1, h2, fun i hi => ?_⟩
  rw [hq 282 (by decide) (by decide), hq 283 (by decide) (by decide), hq 284 (by decide) (by decide)]
  exact h3 i hi
theorem C_find123 (hS : Sim d 2 g) (hw : WG g) (h : GS d (g 0) l s c) (h0 : ∀ k, k < g 0 → d 285 k = J 0) : ok (f_G_find_123 (J 0) d) (fun d' => (∀ r, r < g 0 → d' 285 r = J (clm g l s r (g 0))) ∧ ∀ k, k ≠ 285 → d' k = d k) := by
  have h8 := hw.nl
  unfold f_G_find_123
  refine iter_up 0 (g 0) (fun n x => ∃ d5, x = (J n, d5) ∧ (∀ r, r < g 0 → d5 285 r = J (clm g l s r n)) ∧ ∀ k, k ≠ 285 → d5 k = d k) ⟨d, rfl, fun r hr => h0 r hr, fun _ _ => rfl⟩ (Nat.zero_le _) (by omega) ?_ ?_
  · intro n x hn hx
    obtain ⟨d5, rfl, a1, a2⟩ := hx
    have hG5 : GS d5 (g 0) l s c := h.same (fun k h1 h2 => a2 k (by omega))
    obtain ⟨w1, w2, w3, w4, w5, w6⟩ := hG5.2.2 n hn
    have ha := hw.adm hn
    have e5 : d5 5 n = J (g (14 + 11 * n)) := by rw [a2 5 (by decide)]; exact hS.adm hn
    have hsw : sw g s n ≤ 2 := sw_le ha
    unfold st_G_find_123
    simp only [J_lit]
    rw [hG5.1, if_n (fun q => by have := (J_le (by omega) (by omega)).mp q; omega), J_inb (by omega), gd_d (by omega), J_nat (by omega), e5]
    by_cases q : g (14 + 11 * n) = 0
    · rw [if_p (by rw [q]), ok_s, J_add]
      refine Or.inl ⟨_, rfl, d5, rfl, fun r hr => ?_, a2⟩
      have hz : sw g s n = 0 := by unfold sw; rw [if_p q]
      rw [clm_step hsw, hz, Nat.or_zero, ite_self]
      exact a1 r hr
    · have e7 : (if s n = 1 then 3 - g (14 + 11 * n) else g (14 + 11 * n)) = sw g s n := by
        unfold sw
        rw [if_n q]
      rw [if_n (J_ne q (by omega) (by decide)), gd_d (by omega), w4, J_inb (by omega), gd_d (by omega), gd_d (by omega), G_seen hG5 hn (by omega), ob1_s, e7, gd_d (by omega), J_nat (by omega), a1 (l n) w1, J_or, ok_bnd, ok_s, J_add]
      refine Or.inl ⟨_, rfl, _, rfl, fun r hr => ?_, fun k hk => by rw [wr_k hk]; exact a2 k hk⟩
      rw [wr_i, clm_step hsw]
      by_cases e : r = l n
      · rw [if_p e, if_p e.symm, e]
      · rw [if_n e, if_n (fun t => e t.symm)]
        exact a1 r hr
  · intro x hx
    obtain ⟨d5, rfl, a1, a2⟩ := hx
    unfold st_G_find_123
    simp only [J_lit]
    rw [a2 281 (by decide), h.1, if_p ((J_le (by omega) (by omega)).mpr (Nat.le_refl _)), ok_ir, ok_s]
    exact ⟨_, rfl, a1, a2⟩
/-- what find leaves behind -/
def GF (d : Dt) (g l s c : Nat → Nat) (S : Nat → Prop) : Prop := GS d (g 0) l s c ∧ GI g l s c S ∧ ∀ r, r < g 0 → d 285 r = J (clm g l s r (g 0))
theorem G_find (hS : Sim d 2 g) (hw : WG g) : ok (f_G_find m d) (fun d' => (∃ l s c, GF d' g l s c (seen m (g 4))) ∧ ∀ k, k < 281 ∨ 286 ≤ k → d' k = d k) := by
  have e3 : d 3 0 = J (g 0) := hS.nl
  unfold f_G_find
  simp only [J_lit]
  rw [e3, ok_bnd]
  have hS8 : Sim (wr d 281 0 (J (g 0))) 2 g := hS.same hw.nl (fun k h3 h4 => wr_k (by omega))
  refine C_find11 hS8 hw wr_s (fun d5 l s c b1 b2 b3 b4 => ?_)
  have hS5 : Sim d5 2 g := hS8.same hw.nl (fun k h3 h4 => b4 k (by omega))
  refine ok_mono (C_find123 hS5 hw b1 b3) (fun d6 h6 => ⟨⟨l, s, c, b1.same (fun k h1 h2 => h6.2 k (by omega)), b2, h6.1⟩, fun k hk => ?_⟩)
  rw [h6.2 k (by omega), b4 k hk, wr_k (by omega)]
theorem GF_scr {d' : Dt} (h : ∀ k, k < 281 ∨ 286 ≤ k → d' k = d k) : scr d d' := fun k hk => h k (by omega)
theorem seen_all (h : n ≤ 12) : ∀ q, seen (-J 1) n q ↔ q < n := fun q => ⟨And.left, fun h => ⟨h, J_neg1 (by omega)⟩⟩
/-- the number with the bits p -/
def mkB (p : Nat → Bool) : Nat → Nat
  | 0 => 0
  | n + 1 => if p n then mkB p n ||| 2 ^ n else mkB p n
theorem mkB_bit {p : Nat → Bool} : ∀ n i, (mkB p n).testBit i = (decide (i < n) && p i) := by
  intro n
  induction n with
  | zero =>
    intro i
    show (0 : Nat).testBit i = _
    rw [Nat.zero_testBit]
    rfl
  | succ n ih =>
    intro i
    show (if p n then mkB p n ||| 2 ^ n else mkB p n).testBit i = _
    cases h : p n with
    | true =>
      rw [if_p rfl, Nat.testBit_or, ih, Nat.testBit_two_pow]
      by_cases hi : i < n
      · rw [decide_eq_true hi, decide_eq_true (show i < n + 1 by omega), decide_eq_false (show ¬ n = i by omega), Bool.or_false]
      · rw [decide_eq_false hi]
        by_cases q : n = i
        · subst q
          rw [decide_eq_true rfl, decide_eq_true (Nat.lt_succ_self n), h]
          rfl
        · rw [decide_eq_false q, decide_eq_false (show ¬ i < n + 1 by omega)]
          rfl
    | false =>
      rw [if_n (by decide), ih]
      by_cases hi : i < n
      · rw [decide_eq_true hi, decide_eq_true (show i < n + 1 by omega)]
      · rw [decide_eq_false hi]
        by_cases q : n = i
        · subst q
          rw [h, Bool.and_false, Bool.and_false]
        · rw [decide_eq_false (show ¬ i < n + 1 by omega)]
theorem mkB_at {p : Nat → Bool} (h : i < n) : (mkB p n).testBit i = p i := by
  rw [mkB_bit, decide_eq_true h, Bool.true_and]
theorem mkB_lt {p : Nat → Bool} : mkB p n < 2 ^ n :=
  Nat.lt_pow_two_of_testBit _ (fun i hi => by rw [mkB_bit, decide_eq_false (show ¬ i < n by omega), Bool.false_and])
end CLAIM
