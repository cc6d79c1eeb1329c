/-! 36: the law's cases: explanations by trial, the least number of false statements by trial -/
section WAYS
variable {D D' : Nat} {d d1 d2 : Dt} {g g' : Nat → Nat} {us us' : List (Nat → Nat)} {sv : Option (Nat → Nat)} {e f : Int32} {ln : Nat} {cs : Nat → Nat} {om : Nat} {os : Nat → Nat} {L i : Nat} {xs : Nat → Int32} {b : Bool} {s s' : Nat → Bool} {m : Int32} {a : Nat}
def sAll : Nat → Bool := fun _ => true
theorem cntF_congr {k : Nat} (hw : WG g) (h : ∀ i, i < g 0 → s i = s' i) : ∀ n, n ≤ g 4 → cntF g s k n = cntF g s' k n := by
  intro n
  induction n with
  | zero => intro _; rfl
  | succ n ih =>
    intro hn
    show cntF g s k n + (if s (g (151 + 3 * n)) && !tr g k n then 1 else 0) = cntF g s' k n + (if s' (g (151 + 3 * n)) && !tr g k n then 1 else 0)
    rw [ih (by omega), h _ (hw.2.2.2.2 n (by omega)).1]
theorem admB_congr {k : Nat} : ∀ n, (∀ i, i < n → s i = s' i) → admB g s k n = admB g s' k n := by
  intro n
  induction n with
  | zero => intro _; rfl
  | succ n ih =>
    intro h
    show (admB g s k n && (!s n || (g (14 + 11 * n) == 0 || (g (14 + 11 * n) == 1) == k.testBit n))) = (admB g s' k n && (!s' n || (g (14 + 11 * n) == 0 || (g (14 + 11 * n) == 1) == k.testBit n)))
    rw [ih (fun i hi => h i (by omega)), h n (by omega)]
theorem pow256 (hw : WG g) : 2 ^ g 0 ≤ 256 := by
  have h8 := hw.nl
  exact Nat.le_trans (Nat.pow_le_pow_right (by decide) h8) (by decide)
theorem full_bits (hw : WG g) : ∀ i, i < 8 → (J (2 ^ g 0 - 1)).toBitVec.getLsbD i = decide (i < g 0) := fun i hi => by
  rw [J_lsb (by omega), Nat.testBit_two_pow_sub_one]
theorem neg_bits : ∀ i, i < 8 → (-J 1).toBitVec.getLsbD i = sAll i := fun i hi => J_neg1 (by omega)
/-- the assignments below n that explain all -/
def wys (g : Nat → Nat) : Nat → Nat
  | 0 => 0
  | n + 1 => wys g n + (if admB g sAll n (g 0) = true ∧ cntF g sAll n (g 4) = 0 then 1 else 0)
theorem wys_le : ∀ n, wys g n ≤ n := by
  intro n
  induction n with
  | zero => exact Nat.le_refl 0
  | succ n ih =>
    show wys g n + (if admB g sAll n (g 0) = true ∧ cntF g sAll n (g 4) = 0 then 1 else 0) ≤ n + 1
    by_cases h : admB g sAll n (g 0) = true ∧ cntF g sAll n (g 4) = 0
    · rw [if_p h]; omega
    · rw [if_n h]; omega
theorem M_areTrueAll (hr : rowN d 293 0 g) (hw : WG g) : f_M_areTrue (J (2 ^ g 0 - 1)) (J a) d = some (J (if cntF g sAll a (g 4) = 0 then 1 else 0)) := by
  rw [M_areTrue hr hw (full_bits hw), cntF_congr (s' := sAll) hw (fun i hi => decide_eq_true hi) (g 4) (Nat.le_refl _)]
theorem M_isAdmittedAll (hr : rowN d 293 0 g) (hw : WG g) : f_M_isAdmitted (J (2 ^ g 0 - 1)) (J a) d = some (J (if admB g sAll a (g 0) then 1 else 0)) := by
  rw [M_isAdmitted hr hw (full_bits hw), admB_congr (s' := sAll) (g 0) (fun i hi => decide_eq_true hi)]
theorem M_ways (hr : rowN d 293 0 g) (hw : WG g) : f_M_ways d = some (J (wys g (2 ^ g 0))) := by
  have h8 := hw.nl
  have hp := pow256 hw
  have hp0 := Nat.two_pow_pos (g 0)
  have e0 : d 293 0 = J (g 0) := hr.at (by decide)
  apply ok_eq
  unfold f_M_ways f_M_ways_15
  simp only [J_lit]
  rw [e0, J_shl (by omega), J_sub (by omega)]
  refine iter_up 0 (2 ^ g 0) (fun n x => x = (J (wys g n), J n)) rfl (by omega) (by omega) ?_ ?_
  · intro n x hn hx
    subst hx
    have hl := wys_le (g := g) n
    unfold st_M_ways_15
    simp only [J_lit]
    rw [if_n (fun q => by have := (J_lt (by omega) (by omega)).mp q; omega), M_areTrueAll hr hw, M_isAdmittedAll hr hw, ob1_s, ob1_s, J_add, J_add, J_add]
    have goal : ∀ v, v = wys g n + (if admB g sAll n (g 0) = true ∧ cntF g sAll n (g 4) = 0 then 1 else 0) → (J v, J (n + 1)) = (J (wys g (n + 1)), J (n + 1)) := fun v hv => by rw [hv]; rfl
    by_cases q1 : cntF g sAll n (g 4) = 0
    · rw [if_p q1, if_n n10]
      by_cases q2 : admB g sAll n (g 0) = true
      · rw [if_p q2, if_n n10, ok_s]
        exact Or.inl ⟨_, rfl, goal _ (by rw [if_p ⟨q2, q1⟩])⟩
      · rw [if_n q2, if_p rfl, ok_s]
        exact Or.inl ⟨_, rfl, goal _ (by rw [if_n (fun t => q2 t.1)])⟩
    · rw [if_n q1, if_p rfl, ok_s]
      exact Or.inl ⟨_, rfl, goal _ (by rw [if_n (fun t => q1 t.2)])⟩
  · intro x hx
    subst hx
    unfold st_M_ways_15
    simp only [J_lit]
    rw [if_p ((J_lt (by omega) (by omega)).mpr (by omega)), ok_ir, ok_s]
    exact ⟨_, rfl, rfl⟩
theorem R_count (hS : Sim d 2 g) (hA : AD d g) (hw : WG g) : f_R_countPossible_10 (J 0) (J 0) d = some (J (wys g (2 ^ g 0)), d) := by
  have h8 := hw.nl
  have hp := pow256 hw
  have hp0 := Nat.two_pow_pos (g 0)
  have e3 : d 3 0 = J (g 0) := hS.nl
  apply ok_eq
  unfold f_R_countPossible_10
  refine iter_up 0 (2 ^ g 0) (fun n x => x = (J (wys g n), J n)) rfl (by omega) (by omega) ?_ ?_
  · intro n x hn hx
    subst hx
    have hl := wys_le (g := g) n
    unfold st_R_countPossible_10
    simp only [J_lit]
    rw [e3, J_shl (by omega), if_n (fun q => by have := (J_le (by omega) (by omega)).mp q; omega), R_keeps hA hw neg_bits, C_countFalse hS hw neg_bits, ob1_s, ob1_s, J_add, J_add]
    have hcl := cntF_le (g := g) (s := sAll) (a := n) (g 4)
    have h12 := hw.ns
    have goal : ∀ v, v = wys g n + (if admB g sAll n (g 0) = true ∧ cntF g sAll n (g 4) = 0 then 1 else 0) → (J v, J (n + 1)) = (J (wys g (n + 1)), J (n + 1)) := fun v hv => by rw [hv]; rfl
    by_cases q2 : admB g sAll n (g 0) = true
    · rw [if_p q2, if_n n10]
      by_cases q1 : cntF g sAll n (g 4) = 0
      · rw [if_p (by rw [q1]), ok_s]
        exact Or.inl ⟨_, rfl, goal _ (by rw [if_p ⟨q2, q1⟩])⟩
      · rw [if_n (J_ne q1 (by omega) (by decide)), ok_s]
        exact Or.inl ⟨_, rfl, goal _ (by rw [if_n (fun t => q1 t.2), Nat.add_zero])⟩
    · rw [if_n q2, if_p rfl, ok_s]
      exact Or.inl ⟨_, rfl, goal _ (by rw [if_n (fun t => q2 t.1), Nat.add_zero])⟩
  · intro x hx
    subst hx
    unfold st_R_countPossible_10
    simp only [J_lit]
    rw [e3, J_shl (by omega), if_p ((J_le (by omega) (by omega)).mpr (Nat.le_refl _)), ok_ir, ok_s]
    exact ⟨_, rfl, rfl⟩
/-- a question of the class that writes only cells that nothing rests on -/
def scr (d d1 : Dt) : Prop := ∀ k, (k < 27 ∨ (52 ≤ k ∧ k < 277) ∨ 287 ≤ k) → d1 k = d k
theorem scr.fX (h : scr d d1) : fX d d1 :=
  ⟨fun k h1 h2 => h k (by omega), fun j h1 h2 => by rw [h 0 (by omega)], fun k h1 h2 => h k (by omega)⟩
theorem scr.hs (h : scr d d1) (hH : HS d us) (hu : ∀ u ∈ us, WF D u) : HS d1 us := by
  obtain ⟨h1, nu, h2, h3, h4⟩ := hH
  exact ⟨by rw [h 0 (by omega)]; exact h1, nu, h2, by rw [h 0 (by omega)]; exact h3, fun j hj => (h4 j hj).same (hu _ (getD_mem hj)).nl (fun k h5 h6 => h k (by omega))⟩
theorem scr.sim (h : scr d d1) (hS : Sim d 2 g) (hw : WG g) : Sim d1 2 g := hS.same hw.nl (fun k h5 h6 => h k (by omega))
theorem St.scr (h : St D d g us sv e f ln cs om os) (hs : scr d d1) (hm : MO d1 d2 us g i) : Inv D d2 :=
  (h.change (Nat.le_refl D) h.wf ⟨h.ul, h.uw⟩ (hs.hs h.hs h.uw) (hs.sim h.sim h.wf.wg) hs.fX hm).inv
/-- a question without an error that writes such cells -/
theorem tail_s {x5 : Int32} {C : Option (Int32 × Dt)} {M : Dt → Option (Int32 × Dt)} {v : Int32} {c : Nat} (h : St D d g us sv e f ln cs om os) (hC : ok C (fun z => z.1 = v ∧ scr d z.2)) (hM : ∀ d1, scr d d1 → MP d1 us g false → ok (M d1) (fun z => z.1 = v ∧ MO d1 z.2 us g c)) : ok (ob2 C fun r1 d1 => ob2 (M d1) fun r2 d2 => if r1 = r2 then some (.inl ((x5 + 5), d2)) else ir (some ((0 : Int32), d2))) (fun y => ∃ d', y = .inl (x5 + 5, d') ∧ Inv D d') := by
  rw [ok_ob2]
  refine ok_mono hC (fun z hz => ?_)
  rw [ok_ob2]
  refine ok_mono (hM z.2 hz.2 (h.mp hz.2.fX)) (fun u hu => ?_)
  rw [hz.1, hu.1, if_p rfl, ok_s]
  exact ⟨_, rfl, h.scr hz.2 hu.2⟩
theorem C_byTrial (hS : Sim d 2 g) (hw : WG g) : ok (f_C_explanationsByTrial d) (fun z => z.1 = J (wys g (2 ^ g 0)) ∧ scr d z.2) := by
  unfold f_C_explanationsByTrial f_R_countPossible
  rw [ok_ob2, ok_ob1]
  refine ok_mono (R_read hS hw) (fun d3 h3 => ?_)
  have hs : scr d d3 := fun k hk => h3.2 k (by omega)
  rw [show f_R_countPossible_10 0 0 d3 = _ from R_count (hs.sim hS hw) h3.1 hw, ok_s, ok_s]
  exact ⟨rfl, hs⟩
theorem law_byTrial (h : St D d g us sv e f ln cs om os) : ok (f_W_law_2142 L xs (J i) d) (fun y => ∃ d', y = .inl (J i + 5, d') ∧ Inv D d') := by
  refine tail_s (c := 0) h (C_byTrial h.sim h.wf.wg) (fun d1 hs hp => ?_)
  have hm := MO_code hp.1 hp.2.1 0
  show ok (ob1 (f_M_ways (wr d1 292 7 (J 0))) fun r2 => some (r2, wr d1 292 7 (J 0))) _
  rw [M_ways hm.2.1 h.wf.wg, ob1_s, ok_s]
  exact ⟨rfl, hm⟩
/-- the least number of false statements of the admitted assignments below n, at most t -/
def ffs (g : Nat → Nat) (t : Nat) : Nat → Nat
  | 0 => t
  | n + 1 => if admB g sAll n (g 0) = true then min (ffs g t n) (cntF g sAll n (g 4)) else ffs g t n
theorem ffs_le {t : Nat} : ∀ n, ffs g t n ≤ t := by
  intro n
  induction n with
  | zero => exact Nat.le_refl t
  | succ n ih =>
    show (if admB g sAll n (g 0) = true then min (ffs g t n) (cntF g sAll n (g 4)) else ffs g t n) ≤ t
    by_cases h : admB g sAll n (g 0) = true
    · rw [if_p h]; omega
    · rw [if_n h]; exact ih
theorem ffs_same {t t' : Nat} (h1 : g 4 ≤ t) (h2 : g 4 ≤ t') : ∀ n, ffs g t n = ffs g t' n ∨ (ffs g t n = t ∧ ffs g t' n = t' ∧ ∀ k, k < n → ¬ admB g sAll k (g 0) = true) := by
  intro n
  induction n with
  | zero => exact Or.inr ⟨rfl, rfl, fun k hk => absurd hk (Nat.not_lt_zero k)⟩
  | succ n ih =>
    show (if admB g sAll n (g 0) = true then min (ffs g t n) (cntF g sAll n (g 4)) else ffs g t n) = (if admB g sAll n (g 0) = true then min (ffs g t' n) (cntF g sAll n (g 4)) else ffs g t' n) ∨ ((if admB g sAll n (g 0) = true then min (ffs g t n) (cntF g sAll n (g 4)) else ffs g t n) = t ∧ (if admB g sAll n (g 0) = true then min (ffs g t' n) (cntF g sAll n (g 4)) else ffs g t' n) = t' ∧ ∀ k, k < n + 1 → ¬ admB g sAll k (g 0) = true)
    have hc := cntF_le (g := g) (s := sAll) (a := n) (g 4)
    by_cases h : admB g sAll n (g 0) = true
    · rw [if_p h, if_p h]
      rcases ih with q | ⟨q1, q2, q3⟩
      · exact Or.inl (by rw [q])
      · exact Or.inl (by rw [q1, q2]; omega)
    · rw [if_n h, if_n h]
      rcases ih with q | ⟨q1, q2, q3⟩
      · exact Or.inl q
      · refine Or.inr ⟨q1, q2, fun k hk => ?_⟩
        rcases (by omega : k < n ∨ k = n) with r | rfl
        · exact q3 k r
        · exact h
/-- the admissions of a state are those of an assignment -/
theorem adm_some (hw : WG g) : mkA g 1 (g 0) < 2 ^ g 0 ∧ admB g sAll (mkA g 1 (g 0)) (g 0) = true := by
  refine ⟨Nat.lt_pow_two_of_testBit _ (fun i hi => by rw [mkA_bit, decide_eq_false (show ¬ i < g 0 by omega), Bool.false_and]), (admB_iff _).mpr (fun i hi => ?_)⟩
  have ha := hw.adm hi
  rw [mkA_bit, decide_eq_true hi, Bool.true_and]
  rcases (by omega : g (14 + 11 * i) = 0 ∨ g (14 + 11 * i) = 1 ∨ g (14 + 11 * i) = 2) with q | q | q <;> rw [q] <;> rfl
theorem ffs_eq (hw : WG g) : ffs g 12 (2 ^ g 0) = ffs g (g 4) (2 ^ g 0) := by
  rcases ffs_same (g := g) hw.ns (Nat.le_refl (g 4)) (2 ^ g 0) with q | ⟨_, _, q3⟩
  · exact q
  · exact absurd (adm_some hw).2 (q3 _ (adm_some hw).1)
theorem M_false39 {x1 : Int32} {t : Nat} (ht : t ≤ 12) (hr : rowN d 293 0 g) (hw : WG g) (ha : a < 256) : f_M_fewestFalse_39 x1 (J t) (J a) (J 0) (J 0) d = some (.inl (J (min t (cntF g sAll a (g 4))), J (a + 1))) := by
  have h12 := hw.ns
  have e4 : d 293 4 = J (g 4) := hr.at (by decide)
  apply ok_eq
  unfold f_M_fewestFalse_39
  refine iter_up 0 (g 4) (fun n x => x = (J (cntF g sAll a n), J n)) rfl (by omega) (by omega) ?_ ?_
  · intro n x hn hx
    subst hx
    unfold st_M_fewestFalse_39
    simp only [J_lit]
    rw [e4, if_n (fun q => by have := (J_le (by omega) (by omega)).mp q; omega), M_isTrue hr hw hn, ob1_s, J_add, J_add, J_add]
    have goal : ∀ v, v = cntF g sAll a n + (if sAll (g (151 + 3 * n)) && !tr g a n then 1 else 0) → (J v, J (n + 1)) = (J (cntF g sAll a (n + 1)), J (n + 1)) := fun v hv => by rw [hv]; rfl
    cases h : tr g a n with
    | true =>
      rw [if_p rfl, if_n n10, ok_s]
      exact Or.inl ⟨_, rfl, goal _ (by rw [h]; rfl)⟩
    | false =>
      rw [if_p (show J (if false = true then 1 else 0) = J 0 from rfl), ok_s]
      exact Or.inl ⟨_, rfl, goal _ (by rw [h]; rfl)⟩
  · intro x hx
    subst hx
    have hc := cntF_le (g := g) (s := sAll) (a := a) (g 4)
    unfold st_M_fewestFalse_39
    simp only [J_lit]
    rw [e4, if_p ((J_le (by omega) (by omega)).mpr (Nat.le_refl _)), ok_ir, J_add]
    by_cases q : t ≤ cntF g sAll a (g 4)
    · rw [if_p ((J_le (by omega) (by omega)).mpr q), ok_s, Nat.min_eq_left q]
      exact ⟨_, rfl, rfl⟩
    · rw [if_n (fun r => q ((J_le (by omega) (by omega)).mp r)), ok_s, Nat.min_eq_right (by omega)]
      exact ⟨_, rfl, rfl⟩
theorem M_fewest (hr : rowN d 293 0 g) (hw : WG g) : f_M_fewestFalse d = some (J (ffs g (g 4) (2 ^ g 0))) := by
  have h8 := hw.nl
  have hp := pow256 hw
  have hp0 := Nat.two_pow_pos (g 0)
  have e0 : d 293 0 = J (g 0) := hr.at (by decide)
  rw [← ffs_eq hw]
  apply ok_eq
  unfold f_M_fewestFalse f_M_fewestFalse_16
  simp only [J_lit]
  rw [e0, J_shl (by omega), J_sub (by omega)]
  refine iter_up 0 (2 ^ g 0) (fun n x => x = (J (ffs g 12 n), J n)) rfl (by omega) (by omega) ?_ ?_
  · intro n x hn hx
    subst hx
    have hl := ffs_le (g := g) (t := 12) n
    unfold st_M_fewestFalse_16
    simp only [J_lit]
    rw [if_n (fun q => by have := (J_lt (by omega) (by omega)).mp q; omega), M_isAdmittedAll hr hw, ob1_s, M_false39 hl hr hw (by omega), J_add]
    have goal : ∀ v, v = (if admB g sAll n (g 0) = true then min (ffs g 12 n) (cntF g sAll n (g 4)) else ffs g 12 n) → (J v, J (n + 1)) = (J (ffs g 12 (n + 1)), J (n + 1)) := fun v hv => by rw [hv]; rfl
    by_cases q2 : admB g sAll n (g 0) = true
    · rw [if_p q2, if_n n10, ok_s]
      exact Or.inl ⟨_, rfl, goal _ (by rw [if_p q2])⟩
    · rw [if_n q2, if_p rfl, ok_s]
      exact Or.inl ⟨_, rfl, goal _ (by rw [if_n q2])⟩
  · intro x hx
    subst hx
    unfold st_M_fewestFalse_16
    simp only [J_lit]
    rw [if_p ((J_lt (by omega) (by omega)).mpr (by omega)), ok_ir, ok_s]
    exact ⟨_, rfl, rfl⟩
theorem R_fewest (hS : Sim d 2 g) (hA : AD d g) (hw : WG g) : f_R_fewestFalse_13 (J (g 4)) (J 0) d = some (J (ffs g (g 4) (2 ^ g 0)), d) := by
  have h8 := hw.nl
  have h12 := hw.ns
  have hp := pow256 hw
  have hp0 := Nat.two_pow_pos (g 0)
  have e3 : d 3 0 = J (g 0) := hS.nl
  apply ok_eq
  unfold f_R_fewestFalse_13
  refine iter_up 0 (2 ^ g 0) (fun n x => x = (J (ffs g (g 4) n), J n)) rfl (by omega) (by omega) ?_ ?_
  · intro n x hn hx
    subst hx
    have hl := ffs_le (g := g) (t := g 4) n
    have hc := cntF_le (g := g) (s := sAll) (a := n) (g 4)
    unfold st_R_fewestFalse_13
    simp only [J_lit]
    rw [e3, J_shl (by omega), if_n (fun q => by have := (J_le (by omega) (by omega)).mp q; omega), R_keeps hA hw neg_bits, C_countFalse hS hw neg_bits, ob1_s, ob1_s, J_add, mnI_J (by omega) (by omega)]
    have goal : ∀ v, v = (if admB g sAll n (g 0) = true then min (ffs g (g 4) n) (cntF g sAll n (g 4)) else ffs g (g 4) n) → (J v, J (n + 1)) = (J (ffs g (g 4) (n + 1)), J (n + 1)) := fun v hv => by rw [hv]; rfl
    by_cases q2 : admB g sAll n (g 0) = true
    · rw [if_p q2, if_n n10, ok_s]
      exact Or.inl ⟨_, rfl, goal _ (by rw [if_p q2])⟩
    · rw [if_n q2, if_p rfl, ok_s]
      exact Or.inl ⟨_, rfl, goal _ (by rw [if_n q2])⟩
  · intro x hx
    subst hx
    unfold st_R_fewestFalse_13
    simp only [J_lit]
    rw [e3, J_shl (by omega), if_p ((J_le (by omega) (by omega)).mpr (Nat.le_refl _)), ok_ir, ok_s]
    exact ⟨_, rfl, rfl⟩
theorem C_leastFalse (hS : Sim d 2 g) (hw : WG g) : ok (f_C_leastFalse d) (fun z => z.1 = J (ffs g (g 4) (2 ^ g 0)) ∧ scr d z.2) := by
  unfold f_C_leastFalse f_R_fewestFalse
  rw [ok_ob2, ok_ob1]
  refine ok_mono (R_read hS hw) (fun d3 h3 => ?_)
  have hs : scr d d3 := fun k hk => h3.2 k (by omega)
  have hS3 := hs.sim hS hw
  have e22 : d3 22 0 = J (g 4) := hS3.ns
  rw [e22, show f_R_fewestFalse_13 (J (g 4)) 0 d3 = _ from R_fewest hS3 h3.1 hw, ok_s, ok_s]
  exact ⟨rfl, hs⟩
theorem law_leastFalse (h : St D d g us sv e f ln cs om os) : ok (f_W_law_2155 L xs (J i) d) (fun y => ∃ d', y = .inl (J i + 5, d') ∧ Inv D d') := by
  refine tail_s (c := 0) h (C_leastFalse h.sim h.wf.wg) (fun d1 hs hp => ?_)
  have hm := MO_code hp.1 hp.2.1 0
  show ok (ob1 (f_M_fewestFalse (wr d1 292 7 (J 0))) fun r2 => some (r2, wr d1 292 7 (J 0))) _
  rw [M_fewest hm.2.1 h.wf.wg, ob1_s, ok_s]
  exact ⟨rfl, hm⟩
end WAYS
