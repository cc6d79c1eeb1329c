/-! 35: what the admissions ask of an assignment: both sides -/
section ADM
variable {D D' : Nat} {d d1 d2 : Dt} {g g' : Nat → Nat} {us us' : List (Nat → Nat)} {sv : Option (Nat → Nat)} {e f : Int32} {ln : Nat} {cs : Nat → Nat} {om : Nat} {os : Nat → Nat} {L i : Nat} {xs : Nat → Int32} {b : Bool} {s : Nat → Bool} {m : Int32} {a : Nat}
theorem admB_iff : ∀ n, admB g s a n = true ↔ ∀ i, i < n → (!s i || (g (14 + 11 * i) == 0 || (g (14 + 11 * i) == 1) == a.testBit i)) = true := by
  intro n
  induction n with
  | zero => exact ⟨fun _ i hi => absurd hi (Nat.not_lt_zero i), fun _ => rfl⟩
  | succ n ih =>
    show (admB g s a n && (!s n || (g (14 + 11 * n) == 0 || (g (14 + 11 * n) == 1) == a.testBit n))) = true ↔ _
    rw [Bool.and_eq_true, ih]
    refine ⟨fun h i hi => ?_, fun h => ⟨fun i hi => h i (by omega), h n (by omega)⟩⟩
    rcases (by omega : i < n ∨ i = n) with q | rfl
    · exact h.1 i q
    · exact h.2
theorem admB_false {k n : Nat} (h : admB g s a k = false) (hk : k ≤ n) : admB g s a n = false := by
  rw [← Bool.not_eq_true] at h ⊢
  intro q
  exact h ((admB_iff k).mpr (fun i hi => (admB_iff n).mp q i (by omega)))
theorem M_isAdmitted (hr : rowN d 293 0 g) (hw : WG g) (hs : ∀ i, i < 8 → m.toBitVec.getLsbD i = s i) : f_M_isAdmitted m (J a) d = some (J (if admB g s a (g 0) then 1 else 0)) := by
  have h8 := hw.nl
  have e0 : d 293 0 = J (g 0) := hr.at (by decide)
  apply ok_eq
  unfold f_M_isAdmitted f_M_isAdmitted_2
  simp only [J_lit]
  refine iter_up 0 (g 0) (fun n x => x = J n ∧ admB g s a n = true) ⟨rfl, rfl⟩ (by omega) (by omega) ?_ ?_
  · intro n x hn hx
    obtain ⟨rfl, hx⟩ := hx
    have ha := hw.adm hn
    have e1 : d 293 (13 + 11 * n + 1) = J (g (14 + 11 * n)) := by rw [hr.at (by omega), show 13 + 11 * n + 1 = 14 + 11 * n by omega]
    unfold st_M_isAdmitted_2 f_M_isAdmitted_45 f_M_isAdmitted_59
    simp only [J_lit]
    rw [e0, if_n (fun q => by have := (J_le (by omega) (by omega)).mp q; omega), J_bitg (by omega), hs _ (by omega), M_of (by omega) (by decide), ob1_s, ob1_s, e1, J_bit (by omega), J_add]
    have go : ∀ v, v = (!s n || (g (14 + 11 * n) == 0 || (g (14 + 11 * n) == 1) == a.testBit n)) → v = true → (∃ s', (.inl (J (n + 1)) : Int32 ⊕ Int32) = .inl s' ∧ s' = J (n + 1) ∧ admB g s a (n + 1) = true) ∨ ∃ x, (.inl (J (n + 1)) : Int32 ⊕ Int32) = .inr x ∧ x = J (if admB g s a (g 0) then 1 else 0) := fun v hv hv2 => by
      refine Or.inl ⟨_, rfl, rfl, ?_⟩
      show (admB g s a n && (!s n || (g (14 + 11 * n) == 0 || (g (14 + 11 * n) == 1) == a.testBit n))) = true
      rw [hx, ← hv, hv2]
      rfl
    have ex : ∀ v, v = (!s n || (g (14 + 11 * n) == 0 || (g (14 + 11 * n) == 1) == a.testBit n)) → v = false → (∃ s', (.inr (J 0) : Int32 ⊕ Int32) = .inl s' ∧ s' = J (n + 1) ∧ admB g s a (n + 1) = true) ∨ ∃ x, (.inr (J 0) : Int32 ⊕ Int32) = .inr x ∧ x = J (if admB g s a (g 0) then 1 else 0) := fun v hv hv2 => by
      refine Or.inr ⟨_, rfl, ?_⟩
      have : admB g s a (n + 1) = false := by
        show (admB g s a n && (!s n || (g (14 + 11 * n) == 0 || (g (14 + 11 * n) == 1) == a.testBit n))) = false
        rw [hx, ← hv, hv2]
        rfl
      rw [admB_false this (by omega)]
      rfl
    cases hsn : s n with
    | false =>
      rw [if_n (show ¬ J (if false = true then 1 else 0) = J 1 by decide), ok_s]
      exact go _ rfl (by rw [hsn]; rfl)
    | true =>
      rw [if_p rfl]
      rcases (by omega : g (14 + 11 * n) = 0 ∨ g (14 + 11 * n) = 1 ∨ g (14 + 11 * n) = 2) with h | h | h
      · rw [h, if_p (show J 0 ≤ J 0 by decide)]
        show ok (some (Sum.inl (J (n + 1)))) _
        rw [ok_s]
        exact go _ rfl (by rw [hsn, h]; rfl)
      · rw [h, if_n (show ¬ J 1 ≤ J 0 by decide), if_p rfl]
        cases hb : a.testBit n with
        | true =>
          show ok (some (Sum.inl (J (n + 1)))) _
          rw [ok_s]
          exact go _ rfl (by rw [hsn, h, hb]; rfl)
        | false =>
          show ok (some (Sum.inr (J 0))) _
          rw [ok_s]
          exact ex _ rfl (by rw [hsn, h, hb]; rfl)
      · rw [h, if_n (show ¬ J 2 ≤ J 0 by decide), if_n (show ¬ J 2 = J 1 by decide)]
        cases hb : a.testBit n with
        | true =>
          show ok (some (Sum.inr (J 0))) _
          rw [ok_s]
          exact ex _ rfl (by rw [hsn, h, hb]; rfl)
        | false =>
          show ok (some (Sum.inl (J (n + 1)))) _
          rw [ok_s]
          exact go _ rfl (by rw [hsn, h, hb]; rfl)
  · intro x hx
    obtain ⟨rfl, hx⟩ := hx
    unfold st_M_isAdmitted_2
    simp only [J_lit]
    rw [e0, if_p ((J_le (by omega) (by omega)).mpr (Nat.le_refl _)), ok_ir, ok_s, hx]
    exact ⟨_, rfl, rfl⟩
/-- the lanterns whose admission is v -/
def mkA (g : Nat → Nat) (v : Nat) : Nat → Nat
  | 0 => 0
  | n + 1 => if g (14 + 11 * n) = v then mkA g v n ||| 2 ^ n else mkA g v n
theorem mkA_bit {v : Nat} : ∀ n i, (mkA g v n).testBit i = (decide (i < n) && (g (14 + 11 * i) == v)) := by
  intro n
  induction n with
  | zero =>
    intro i
    show (0 : Nat).testBit i = _
    rw [Nat.zero_testBit]
    rfl
  | succ n ih =>
    intro i
    show (if g (14 + 11 * n) = v then mkA g v n ||| 2 ^ n else mkA g v n).testBit i = _
    by_cases h : g (14 + 11 * n) = v
    · rw [if_p h, Nat.testBit_or, ih, Nat.testBit_two_pow]
      by_cases hi : i < n
      · rw [decide_eq_true hi, decide_eq_true (show i < n + 1 by omega), decide_eq_false (show ¬ n = i by omega), Bool.or_false]
      · rw [decide_eq_false hi]
        by_cases q : n = i
        · subst q
          rw [decide_eq_true rfl, decide_eq_true (Nat.lt_succ_self n), h, beq_self_eq_true]
          rfl
        · rw [decide_eq_false q, decide_eq_false (show ¬ i < n + 1 by omega)]
          rfl
    · rw [if_n h, ih]
      by_cases hi : i < n
      · rw [decide_eq_true hi, decide_eq_true (show i < n + 1 by omega)]
      · rw [decide_eq_false hi]
        by_cases q : n = i
        · subst q
          rw [beq_eq_false_iff_ne.mpr h, Bool.and_false, Bool.and_false]
        · rw [decide_eq_false (show ¬ i < n + 1 by omega)]
theorem C_admitting {v : Nat} (hv : v ≤ 2) (e3 : d 3 0 = J (g 0)) (e5 : ∀ i, i < g 0 → d 5 i = J (g (14 + 11 * i))) (hw : WG g) : f_L_admitting (J v) d = some (J (mkA g v (g 0))) := by
  have h8 := hw.nl
  apply ok_eq
  unfold f_L_admitting f_L_admitting_4
  simp only [J_lit]
  refine iter_up 0 (g 0) (fun n x => x = (J (mkA g v n), J n)) rfl (by omega) (by omega) ?_ ?_
  · intro n x hn hx
    subst hx
    have ha := hw.adm hn
    unfold st_L_admitting_4
    simp only [J_lit]
    rw [e3, if_n (fun q => by have := (J_le (by omega) (by omega)).mp q; omega), J_inb (by omega), gd_d (by omega), J_nat (by omega), e5 n hn, J_shl (by omega), J_or, J_add]
    refine Or.elim (Nat.decEq (g (14 + 11 * n)) v |>.em) (fun q => ?_) (fun q => ?_)
    · rw [if_p (by rw [q]), ok_s]
      refine Or.inl ⟨_, rfl, ?_⟩
      show _ = (J (if g (14 + 11 * n) = v then mkA g v n ||| 2 ^ n else mkA g v n), J (n + 1))
      rw [if_p q]
    · rw [if_n (J_ne q (by omega) (by omega)), ok_s]
      refine Or.inl ⟨_, rfl, ?_⟩
      show _ = (J (if g (14 + 11 * n) = v then mkA g v n ||| 2 ^ n else mkA g v n), J (n + 1))
      rw [if_n q]
  · intro x hx
    subst hx
    unfold st_L_admitting_4
    simp only [J_lit]
    rw [e3, if_p ((J_le (by omega) (by omega)).mpr (Nat.le_refl _)), ok_ir, ok_s]
    exact ⟨_, rfl, rfl⟩
/-- the admissions as the class reads them -/
def AD (d : Dt) (g : Nat → Nat) : Prop := d 286 0 = J (mkA g 1 (g 0)) ∧ d 286 1 = J (mkA g 2 (g 0))
theorem R_read (hS : Sim d 2 g) (hw : WG g) : ok (f_R_readAdmissions d) (fun d' => AD d' g ∧ ∀ k, k ≠ 286 → d' k = d k) := by
  have e3 : d 3 0 = J (g 0) := hS.nl
  have e5 : ∀ i, i < g 0 → d 5 i = J (g (14 + 11 * i)) := fun i hi => hS.adm hi
  unfold f_R_readAdmissions
  simp only [J_lit]
  rw [C_admitting (by decide) e3 e5 hw, ob1_s, ok_bnd, C_admitting (v := 2) (by decide) (by rw [wr_k (by decide)]; exact e3) (fun i hi => by rw [wr_k (by decide)]; exact e5 i hi) hw, ob1_s, ok_bnd, ok_s]
  refine ⟨⟨by rw [wr_j (by decide), wr_s], wr_s⟩, fun k hk => by rw [wr_k hk, wr_k hk]⟩
theorem J_zero {x : Int32} : x = J 0 ↔ ∀ i, i < 32 → x.toBitVec.getLsbD i = false := by
  refine ⟨fun h i hi => ?_, fun h => ?_⟩
  · rw [h, J_lsb hi, Nat.zero_testBit]
  · apply Int32.toBitVec_inj.mp
    apply BitVec.eq_of_getLsbD_eq
    intro i hi
    rw [h i hi, J_lsb hi, Nat.zero_testBit]
theorem and_bit {x y : Int32} {k : Nat} : (x &&& y).toBitVec.getLsbD k = (x.toBitVec.getLsbD k && y.toBitVec.getLsbD k) := by
  show (x.toBitVec &&& y.toBitVec).getLsbD k = _
  rw [BitVec.getLsbD_and]
theorem R_keeps (hA : AD d g) (hw : WG g) (hs : ∀ i, i < 8 → m.toBitVec.getLsbD i = s i) : f_R_keepsAdmissions m (J a) d = some (J (if admB g s a (g 0) then 1 else 0)) := by
  have h8 := hw.nl
  obtain ⟨a1, a2⟩ := hA
  unfold f_R_keepsAdmissions
  simp only [J_lit]
  rw [a1, a2]
  have c1 : ((J (mkA g 1 (g 0)) &&& m) &&& (J a ^^^ -J 1)) = J 0 ↔ ∀ i, i < g 0 → g (14 + 11 * i) = 1 → s i = true → a.testBit i = true := by
    rw [J_zero]
    refine ⟨fun h i hi h1 h2 => ?_, fun h i hi => ?_⟩
    · have := h i (by omega)
      rw [and_bit, and_bit, J_lsb (by omega), mkA_bit, hs i (by omega), J_not (by omega), J_lsb (by omega), decide_eq_true hi, h1, h2] at this
      cases q : a.testBit i with
      | true => rfl
      | false => rw [q] at this; exact absurd this (by decide)
    · rw [and_bit, and_bit, J_lsb hi, mkA_bit, J_not hi, J_lsb hi]
      by_cases hn : i < g 0
      · rw [decide_eq_true hn, hs i (by omega)]
        by_cases h1 : g (14 + 11 * i) = 1
        · cases h2 : s i with
          | false => rw [Bool.and_false, Bool.false_and]
          | true => rw [h i hn h1 h2, Bool.not_true, Bool.and_false]
        · rw [beq_eq_false_iff_ne.mpr h1, Bool.and_false, Bool.false_and, Bool.false_and]
      · rw [decide_eq_false hn, Bool.false_and, Bool.false_and, Bool.false_and]
  have c2 : ((J (mkA g 2 (g 0)) &&& m) &&& J a) = J 0 ↔ ∀ i, i < g 0 → g (14 + 11 * i) = 2 → s i = true → a.testBit i = false := by
    rw [J_zero]
    refine ⟨fun h i hi h1 h2 => ?_, fun h i hi => ?_⟩
    · have := h i (by omega)
      rw [and_bit, and_bit, J_lsb (by omega), mkA_bit, hs i (by omega), J_lsb (by omega), decide_eq_true hi, h1, h2] at this
      cases q : a.testBit i with
      | false => rfl
      | true => rw [q] at this; exact absurd this (by decide)
    · rw [and_bit, and_bit, J_lsb hi, mkA_bit, J_lsb hi]
      by_cases hn : i < g 0
      · rw [decide_eq_true hn, hs i (by omega)]
        by_cases h1 : g (14 + 11 * i) = 2
        · cases h2 : s i with
          | false => rw [Bool.and_false, Bool.false_and]
          | true => rw [h i hn h1 h2, Bool.and_false]
        · rw [beq_eq_false_iff_ne.mpr h1, Bool.and_false, Bool.false_and, Bool.false_and]
      · rw [decide_eq_false hn, Bool.false_and, Bool.false_and, Bool.false_and]
  have cB : admB g s a (g 0) = true ↔ (∀ i, i < g 0 → g (14 + 11 * i) = 1 → s i = true → a.testBit i = true) ∧ ∀ i, i < g 0 → g (14 + 11 * i) = 2 → s i = true → a.testBit i = false := by
    rw [admB_iff]
    refine ⟨fun h => ⟨fun i hi h1 h2 => ?_, fun i hi h1 h2 => ?_⟩, fun h i hi => ?_⟩
    · have := h i hi
      rw [h1, h2] at this
      cases q : a.testBit i with
      | true => rfl
      | false => rw [q] at this; exact absurd this (by decide)
    · have := h i hi
      rw [h1, h2] at this
      cases q : a.testBit i with
      | false => rfl
      | true => rw [q] at this; exact absurd this (by decide)
    · have ha := hw.adm hi
      cases h2 : s i with
      | false => rfl
      | true =>
        rcases (by omega : g (14 + 11 * i) = 0 ∨ g (14 + 11 * i) = 1 ∨ g (14 + 11 * i) = 2) with q | q | q
        · rw [q]; rfl
        · rw [q, h.1 i hi q h2]; rfl
        · rw [q, h.2 i hi q h2]; rfl
  by_cases q1 : ((J (mkA g 1 (g 0)) &&& m) &&& (J a ^^^ -J 1)) = J 0
  · rw [if_p q1]
    by_cases q2 : ((J (mkA g 2 (g 0)) &&& m) &&& J a) = J 0
    · rw [if_p q2, if_p (cB.mpr ⟨c1.mp q1, c2.mp q2⟩)]
    · rw [if_n q2, if_n (fun t => q2 (c2.mpr (cB.mp t).2))]
  · rw [if_n q1, if_n (fun t => q1 (c1.mpr (cB.mp t).1))]
end ADM
