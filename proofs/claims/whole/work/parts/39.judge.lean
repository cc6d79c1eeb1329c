/-! 39: the law's case: the verdict by the explanations -/
section JUDGE
variable {D D' : Nat} {d d1 d2 : Dt} {g g' : Nat → Nat} {us us' : List (Nat → Nat)} {sv : Option (Nat → Nat)} {e f : Int32} {ln : Nat} {cs : Nat → Nat} {om : Nat} {os : Nat → Nat} {L i : Nat} {xs : Nat → Int32} {b : Bool} {a a' n x : Nat}
def sG (g : Nat → Nat) (x : Nat) : Nat → Bool := fun i => (grp g x).testBit i
/-- an assignment that explains the group of x -/
def gud (g : Nat → Nat) (x a : Nat) : Bool := admB g (sG g x) a (g 0) && decide (cntF g (sG g x) a (g 4) = 0)
def anyN (p : Nat → Bool) : Nat → Bool
  | 0 => false
  | n + 1 => anyN p n || p n
theorem anyN_iff {p : Nat → Bool} : ∀ n, anyN p n = true ↔ ∃ k, k < n ∧ p k = true := by
  intro n
  induction n with
  | zero => exact ⟨fun h => absurd (show false = true from h) (by decide), fun ⟨k, hk, _⟩ => absurd hk (Nat.not_lt_zero k)⟩
  | succ n ih =>
    show (anyN p n || p n) = true ↔ _
    rw [Bool.or_eq_true, ih]
    refine ⟨fun h => ?_, fun ⟨k, hk, h⟩ => ?_⟩
    · rcases h with ⟨k, hk, h⟩ | h
      · exact ⟨k, by omega, h⟩
      · exact ⟨n, by omega, h⟩
    · rcases (by omega : k < n ∨ k = n) with q | rfl
      · exact Or.inl ⟨k, q, h⟩
      · exact Or.inr h
theorem sG_second (hw : WG g) (hx : x < 8) {k : Nat} (hk : k < g 4) (h : sG g x (g (151 + 3 * k)) = true) : sG g x (g (152 + 3 * k)) = true := by
  have hc := grp_clo hw hx k hk (fun q => by
    have : (grp g x &&& tm g k).testBit (g (151 + 3 * k)) = false := by rw [q, Nat.zero_testBit]
    rw [Nat.testBit_and, show (grp g x).testBit (g (151 + 3 * k)) = true from h] at this
    unfold tm at this
    rw [Nat.testBit_or, Nat.testBit_two_pow_self, Bool.true_or, Bool.and_true] at this
    cases this)
  show (grp g x).testBit (g (152 + 3 * k)) = true
  rw [← hc, Nat.testBit_or]
  unfold tm
  rw [Nat.testBit_or, Nat.testBit_two_pow_self, Bool.or_true, Bool.or_true]
theorem gud_same (hw : WG g) (hx : x < 8) (h : ∀ i, sG g x i = true → a.testBit i = a'.testBit i) : gud g x a = gud g x a' := by
  have h1 : ∀ n, admB g (sG g x) a n = admB g (sG g x) a' n := by
    intro n
    induction n with
    | zero => rfl
    | succ n ih =>
      show (admB g (sG g x) a n && (!sG g x n || (g (14 + 11 * n) == 0 || (g (14 + 11 * n) == 1) == a.testBit n))) = (admB g (sG g x) a' n && (!sG g x n || (g (14 + 11 * n) == 0 || (g (14 + 11 * n) == 1) == a'.testBit n)))
      rw [ih]
      cases q : sG g x n with
      | false => rfl
      | true => rw [h n q]
  have h2 : ∀ n, n ≤ g 4 → cntF g (sG g x) a n = cntF g (sG g x) a' n := by
    intro n
    induction n with
    | zero => intro _; rfl
    | succ n ih =>
      intro hn
      show cntF g (sG g x) a n + (if sG g x (g (151 + 3 * n)) && !tr g a n then 1 else 0) = cntF g (sG g x) a' n + (if sG g x (g (151 + 3 * n)) && !tr g a' n then 1 else 0)
      rw [ih (by omega)]
      cases q : sG g x (g (151 + 3 * n)) with
      | false => rfl
      | true =>
        unfold tr
        rw [h _ q, h _ (sG_second hw hx (by omega) q)]
  unfold gud
  rw [h1, h2 (g 4) (Nat.le_refl _)]
/-- explains the group, and lantern x is guilty; or is not -/
def p1 (g : Nat → Nat) (x : Nat) : Nat → Bool := fun a => gud g x a && a.testBit x
def p0 (g : Nat → Nat) (x : Nat) : Nat → Bool := fun a => gud g x a && !a.testBit x
/-- within the group -/
def inG (g : Nat → Nat) (x : Nat) (a : Nat) : Bool := decide ((J a &&& (J (grp g x) ^^^ -J 1)) = J 0)
def cntN (p : Nat → Bool) : Nat → Nat
  | 0 => 0
  | n + 1 => cntN p n + (if p n then 1 else 0)
theorem cntN_le {p : Nat → Bool} : ∀ n, cntN p n ≤ n := by
  intro n
  induction n with
  | zero => exact Nat.le_refl 0
  | succ n ih =>
    show cntN p n + (if p n then 1 else 0) ≤ n + 1
    cases p n
    · show cntN p n + 0 ≤ n + 1; omega
    · show cntN p n + 1 ≤ n + 1; omega
theorem cntN_zero {p : Nat → Bool} : ∀ n, cntN p n = 0 ↔ anyN p n = false := by
  intro n
  induction n with
  | zero => exact ⟨fun _ => rfl, fun _ => rfl⟩
  | succ n ih =>
    show cntN p n + (if p n then 1 else 0) = 0 ↔ (anyN p n || p n) = false
    cases q : p n with
    | false =>
      rw [Bool.or_false, ← ih]
      show cntN p n + 0 = 0 ↔ _
      rw [Nat.add_zero]
    | true =>
      rw [Bool.or_true]
      show cntN p n + 1 = 0 ↔ _
      exact ⟨fun h => by omega, fun h => absurd h (by decide)⟩
theorem grp_bit (hw : WG g) (hx : x < 8) : sG g x x = true := by
  have h : sub (2 ^ x) (grp g x) := itC_sub 8
  show (grp g x).testBit x = true
  rw [← h, Nat.testBit_or, Nat.testBit_two_pow_self, Bool.true_or]
theorem any_in (hw : WG g) (hx : x < 8) {v : Bool} : anyN (fun a => inG g x a && (gud g x a && (a.testBit x == v))) n = anyN (fun a => gud g x a && (a.testBit x == v)) n := by
  rw [Bool.eq_iff_iff, anyN_iff, anyN_iff]
  refine ⟨fun ⟨k, hk, h⟩ => ⟨k, hk, (Bool.and_eq_true _ _ ▸ h).2⟩, fun ⟨k, hk, h⟩ => ⟨k &&& grp g x, Nat.lt_of_le_of_lt Nat.and_le_left hk, ?_⟩⟩
  have hb : ∀ i, sG g x i = true → (k &&& grp g x).testBit i = k.testBit i := fun i hi => by
    rw [Nat.testBit_and, show (grp g x).testBit i = true from hi, Bool.and_true]
  have hin : inG g x (k &&& grp g x) = true := by
    apply decide_eq_true
    rw [J_zero]
    intro i hi
    rw [and_bit, J_lsb hi, J_not hi, J_lsb hi, Nat.testBit_and]
    cases k.testBit i <;> cases (grp g x).testBit i <;> rfl
  rw [hin, gud_same hw hx hb, hb x (grp_bit hw hx), Bool.true_and]
  exact h
theorem char29 : f_JS_charAt 29 (J 0) d = some (J 103) ∧ f_JS_charAt 29 (J 1) d = some (J 105) ∧ f_JS_charAt 29 (J 2) d = some (J 117) ∧ f_JS_charAt 29 (J 3) d = some (J 109) := ⟨rfl, rfl, rfl, rfl⟩
/-- guilty, innocent, undecided, marred: the place in the word -/
def vdi (c1 c0 : Bool) : Nat := if c1 = false ∧ c0 = false then 3 else if c0 = false then 0 else if c1 = false then 1 else 2
def vdc (c1 c0 : Bool) : Nat := if c1 = false ∧ c0 = false then 109 else if c0 = false then 103 else if c1 = false then 105 else 117
theorem vd_char {c1 c0 : Bool} : f_JS_charAt 29 (J (vdi c1 c0)) d = some (J (vdc c1 c0)) := by
  cases c1 <;> cases c0
  · exact char29.2.2.2
  · exact char29.2.1
  · exact char29.1
  · exact char29.2.2.1
theorem vdc_ch {c1 c0 : Bool} : nar .char (J (vdc c1 c0)) = true := by
  cases c1 <;> cases c0 <;> exact nar_ch (by decide)
def r1 (g : Nat → Nat) (x : Nat) : Nat → Bool := fun a => gud g x a && (a.testBit x == true)
def r0 (g : Nat → Nat) (x : Nat) : Nat → Bool := fun a => gud g x a && (a.testBit x == false)
def q1 (g : Nat → Nat) (x : Nat) : Nat → Bool := fun a => inG g x a && (gud g x a && (a.testBit x == true))
def q0 (g : Nat → Nat) (x : Nat) : Nat → Bool := fun a => inG g x a && (gud g x a && (a.testBit x == false))
theorem grp_bits : ∀ i, i < 8 → (J (grp g x)).toBitVec.getLsbD i = sG g x i := fun i hi => J_lsb (by omega)
theorem R_judge (hS : Sim d 2 g) (hA : AD d g) (hw : WG g) (hx : x < g 0) : f_R_verdictOn_21 (J x) (J (grp g x)) (J 0) (J 0) (J 0) d = some (J (vdc (anyN (r1 g x) (2 ^ g 0)) (anyN (r0 g x) (2 ^ g 0))), d) := by
  have h8 := hw.nl
  have h12 := hw.ns
  have hp := pow256 hw
  have hp0 := Nat.two_pow_pos (g 0)
  have e3 : d 3 0 = J (g 0) := hS.nl
  apply ok_eq
  unfold f_R_verdictOn_21
  refine iter_up 0 (2 ^ g 0) (fun n s => s = (J (if anyN (r1 g x) n = true then 1 else 0), J (if anyN (r0 g x) n = true then 1 else 0), J n)) rfl (by omega) (by omega) ?_ ?_
  · intro n s hn hs
    subst hs
    have hc := cntF_le (g := g) (s := sG g x) (a := n) (g 4)
    have s1 : anyN (r1 g x) (n + 1) = (anyN (r1 g x) n || (gud g x n && (n.testBit x == true))) := rfl
    have s0 : anyN (r0 g x) (n + 1) = (anyN (r0 g x) n || (gud g x n && (n.testBit x == false))) := rfl
    unfold st_R_verdictOn_21
    simp only [J_lit]
    rw [e3, J_shl (by omega), if_n (fun q => by have := (J_le (by omega) (by omega)).mp q; omega), R_keeps hA hw grp_bits, C_countFalse hS hw grp_bits, ob1_s, ob1_s, J_bit (by omega), J_add, s1, s0]
    unfold gud
    by_cases k1 : admB g (sG g x) n (g 0) = true
    · rw [if_p k1, if_n n10, k1, Bool.true_and]
      by_cases k2 : cntF g (sG g x) n (g 4) = 0
      · rw [if_p (by rw [k2]), decide_eq_true k2, Bool.true_and, Bool.true_and]
        cases hb : n.testBit x with
        | true =>
          rw [if_p rfl, if_p rfl, ok_s]
          refine Or.inl ⟨_, rfl, ?_⟩
          cases anyN (r1 g x) n <;> cases anyN (r0 g x) n <;> rfl
        | false =>
          rw [if_n (show ¬ J (if false = true then 1 else 0) = J 1 by decide), ok_s]
          refine Or.inl ⟨_, rfl, ?_⟩
          cases anyN (r1 g x) n <;> cases anyN (r0 g x) n <;> rfl
      · rw [if_n (J_ne k2 (by omega) (by decide)), decide_eq_false k2, Bool.false_and, Bool.false_and, Bool.or_false, Bool.or_false, ok_s]
        exact Or.inl ⟨_, rfl, rfl⟩
    · rw [if_n k1, if_p rfl, ok_s]
      rw [Bool.not_eq_true] at k1
      rw [k1, Bool.false_and, Bool.false_and, Bool.false_and, Bool.or_false, Bool.or_false]
      exact Or.inl ⟨_, rfl, rfl⟩
  · intro s hs
    subst hs
    unfold st_R_verdictOn_21
    simp only [J_lit]
    rw [e3, J_shl (by omega), if_p ((J_le (by omega) (by omega)).mpr (Nat.le_refl _)), ok_ir]
    cases anyN (r1 g x) (2 ^ g 0) <;> cases anyN (r0 g x) (2 ^ g 0) <;> exact ⟨_, rfl, _, rfl, rfl⟩
theorem M_judge (hr : rowN d 293 0 g) (hw : WG g) (hx : x < g 0) : f_M_judges (J x) d = some (J (vdi (anyN (r1 g x) (2 ^ g 0)) (anyN (r0 g x) (2 ^ g 0)))) := by
  have h8 := hw.nl
  have hp := pow256 hw
  have hp0 := Nat.two_pow_pos (g 0)
  have e0 : d 293 0 = J (g 0) := hr.at (by decide)
  have a1 : anyN (q1 g x) (2 ^ g 0) = anyN (r1 g x) (2 ^ g 0) := any_in hw (by omega)
  have a0 : anyN (q0 g x) (2 ^ g 0) = anyN (r0 g x) (2 ^ g 0) := any_in hw (by omega)
  apply ok_eq
  unfold f_M_judges f_M_judges_14
  rw [M_group hr hw hx, ob1_s]
  simp only [J_lit]
  refine iter_up 0 (2 ^ g 0) (fun n s => s = (J (cntN (q1 g x) n), J (cntN (q0 g x) n), J n)) rfl (by omega) (by omega) ?_ ?_
  · intro n s hn hs
    subst hs
    have s1 : cntN (q1 g x) (n + 1) = cntN (q1 g x) n + (if inG g x n && (gud g x n && (n.testBit x == true)) then 1 else 0) := rfl
    have s0 : cntN (q0 g x) (n + 1) = cntN (q0 g x) n + (if inG g x n && (gud g x n && (n.testBit x == false)) then 1 else 0) := rfl
    unfold st_M_judges_14
    simp only [J_lit]
    rw [e0, J_shl (by omega), if_n (fun q => by have := (J_le (by omega) (by omega)).mp q; omega), M_areTrue hr hw grp_bits, M_isAdmitted hr hw grp_bits, ob1_s, ob1_s, J_bit (by omega), J_add, J_add, J_add, s1, s0]
    unfold gud inG
    by_cases k0 : (J n &&& (J (grp g x) ^^^ -J 1)) = J 0
    · rw [if_p k0, decide_eq_true k0, Bool.true_and, Bool.true_and]
      by_cases k2 : cntF g (sG g x) n (g 4) = 0
      · rw [if_p k2, if_n n10, decide_eq_true k2]
        by_cases k1 : admB g (sG g x) n (g 0) = true
        · rw [if_p k1, if_n n10, k1, Bool.true_and, Bool.true_and, Bool.true_and]
          cases hb : n.testBit x with
          | true =>
            rw [if_p rfl, if_p rfl, ok_s]
            exact Or.inl ⟨_, rfl, rfl⟩
          | false =>
            rw [if_n (show ¬ J (if false = true then 1 else 0) = J 1 by decide), ok_s]
            exact Or.inl ⟨_, rfl, rfl⟩
        · rw [if_n k1, if_p rfl, ok_s]
          rw [Bool.not_eq_true] at k1
          rw [k1, Bool.false_and, Bool.false_and, Bool.false_and]
          exact Or.inl ⟨_, rfl, rfl⟩
      · rw [if_n k2, if_p rfl, ok_s, decide_eq_false k2, Bool.and_false, Bool.false_and, Bool.false_and]
        exact Or.inl ⟨_, rfl, rfl⟩
    · rw [if_n k0, ok_s, decide_eq_false k0, Bool.false_and, Bool.false_and]
      exact Or.inl ⟨_, rfl, rfl⟩
  · intro s hs
    subst hs
    have l1 := cntN_le (p := q1 g x) (2 ^ g 0)
    have l0 := cntN_le (p := q0 g x) (2 ^ g 0)
    have z1 := cntN_zero (p := q1 g x) (2 ^ g 0)
    have z0 := cntN_zero (p := q0 g x) (2 ^ g 0)
    rw [a1] at z1
    rw [a0] at z0
    unfold st_M_judges_14
    simp only [J_lit]
    rw [e0, J_shl (by omega), if_p ((J_le (by omega) (by omega)).mpr (Nat.le_refl _)), ok_ir, J_add]
    generalize cntN (q1 g x) (2 ^ g 0) = c1 at l1 z1 ⊢
    generalize cntN (q0 g x) (2 ^ g 0) = c0 at l0 z0 ⊢
    generalize anyN (r1 g x) (2 ^ g 0) = b1 at z1 ⊢
    generalize anyN (r0 g x) (2 ^ g 0) = b0 at z0 ⊢
    cases b1 with
    | false =>
      have y1 := z1.mpr rfl
      cases b0 with
      | false =>
        have y0 := z0.mpr rfl
        rw [if_p (by rw [y1, y0]), ok_s]
        exact ⟨_, rfl, rfl⟩
      | true =>
        have y0 : c0 ≠ 0 := fun q => absurd (z0.mp q) (by decide)
        rw [if_n (J_ne (by omega) (by omega) (by decide)), if_n (J_ne y0 (by omega) (by decide)), if_p (by rw [y1]), ok_s]
        exact ⟨_, rfl, rfl⟩
    | true =>
      have y1 : c1 ≠ 0 := fun q => absurd (z1.mp q) (by decide)
      cases b0 with
      | false =>
        have y0 := z0.mpr rfl
        rw [if_n (J_ne (by omega) (by omega) (by decide)), if_p (by rw [y0]), ok_s]
        exact ⟨_, rfl, rfl⟩
      | true =>
        have y0 : c0 ≠ 0 := fun q => absurd (z0.mp q) (by decide)
        rw [if_n (J_ne (by omega) (by omega) (by decide)), if_n (J_ne y0 (by omega) (by decide)), if_n (J_ne y1 (by omega) (by decide)), ok_s]
        exact ⟨_, rfl, rfl⟩
theorem P_byExpl {x : Int32} (h : St D d g us sv e f ln cs om os) : ok (f_W_verdictByExplanations x d) (Pr (fun d => f_M_verdictByExplanations x d) D) := by
  have hw := h.wf.wg
  have h8 := hw.nl
  unfold f_W_verdictByExplanations f_C_verdictByExplanations f_R_verdictOn
  simp only [J_lit]
  by_cases q : isIn (g 0) x
  · rw [(C_checkL h.sim h8).1 q, ok_ocW, ok_ocU, ok_s, Sum.elim_inl, ok_ob2, ok_ob1]
    obtain ⟨k, hk, rfl⟩ := q
    refine ok_mono (R_read h.sim hw) (fun d3 h3 => ?_)
    have hs : scr d d3 := fun k hk => h3.2 k (by omega)
    have hS3 := hs.sim h.sim hw
    rw [C_connected hS3 hw hk, ob1_s, R_judge hS3 h3.1 hw hk, ok_s, gd_t1 vdc_ch, ok_s, Sum.elim_inl, ok_bnd, ok_s]
    dsimp only
    refine pr_chg h (Nat.le_refl D) h.wf ⟨h.ul, h.uw⟩ (hs.hs h.hs h.uw) hS3 hs.fX (fun hp => ?_)
    have hm := MO_code hp.1 hp.2.1 0
    unfold f_M_verdictByExplanations f_M_verdictOf
    simp only [J_lit]
    rw [(M_isNone hp.1 h8).1 ⟨k, hk, rfl⟩, ob2_s, if_p rfl, M_judge hm.2.1 hw hk, ob1_s, vd_char, ob1_s, gd_t1 vdc_ch, ob2_s, gd_t1 vdc_ch, ok_s]
    exact ⟨rfl, hm⟩
  · rw [(C_checkL h.sim h8).2 q, ok_ocW, ok_ocU, ok_s, Sum.elim_inr, ok_s, Sum.elim_inr]
    show ok (if (1 : Nat) = 1 then some (J 1, d) else none) _
    rw [if_p rfl, ok_s]
    refine pr_fail h (Nat.le_refl D) 1 (by decide) (by decide) (fun hp => ?_)
    unfold f_M_verdictByExplanations f_M_verdictOf
    simp only [J_lit]
    rw [(M_isNone hp.1 h8).2 q, ob2_s, if_n n10, ob2_s, gd_t1 (nar_ch (by decide)), ok_s]
    exact MO_code hp.1 hp.2.1 1
theorem law_byExpl (h : St D d g us sv e f ln cs om os) (hi : i + 5 ≤ L) (hL : L ≤ 2560) : ok (f_W_law_2073 L xs (J i) d) (fun y => ∃ d', y = .inl (J i + 5, d') ∧ Inv D d') := by
  unfold f_W_law_2073
  simp only [gdx1 hi hL]
  exact tail_i (P := Inv D) (P_byExpl h)
end JUDGE
