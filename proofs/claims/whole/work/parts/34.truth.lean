/-! 34: what is true in an assignment: both sides -/
section TRUTH
variable {D D' : Nat} {d d1 d2 : Dt} {g g' : Nat → Nat} {us us' : List (Nat → Nat)} {sv : Option (Nat → Nat)} {e f : Int32} {ln : Nat} {cs : Nat → Nat} {om : Nat} {os : Nat → Nat} {L i : Nat} {xs : Nat → Int32} {b : Bool} {s : Nat → Bool} {m : Int32} {a : Nat}
/-- what groups and explanations rest on -/
def WG (g : Nat → Nat) : Prop := (g 0 ≤ 8 ∧ g 4 ≤ 12) ∧ True ∧ True ∧ (∀ i, i < g 0 → g (14 + 11 * i) ≤ 2) ∧ ∀ k, k < g 4 → g (151 + 3 * k) < g 0 ∧ g (152 + 3 * k) < g 0 ∧ g (151 + 3 * k) ≠ g (152 + 3 * k) ∧ g (153 + 3 * k) ≤ 1
theorem WG.nl (h : WG g) : g 0 ≤ 8 := h.1.1
theorem WG.ns (h : WG g) : g 4 ≤ 12 := h.1.2
theorem WG.adm (h : WG g) {i : Nat} (hi : i < g 0) : g (14 + 11 * i) ≤ 2 := h.2.2.2.1 i hi
theorem WF.wg (h : WF D g) : WG g := ⟨⟨h.nl, h.ns⟩, trivial, trivial, fun _ hi => h.adm hi, h.2.2.2.2⟩
/-- statement k is true in assignment a -/
def tr (g : Nat → Nat) (a k : Nat) : Bool := (a.testBit (g (151 + 3 * k)) == a.testBit (g (152 + 3 * k))) == (g (153 + 3 * k) == 1)
/-- the false ones among the first n whose first lantern is in s -/
def cntF (g : Nat → Nat) (s : Nat → Bool) (a : Nat) : Nat → Nat
  | 0 => 0
  | n + 1 => cntF g s a n + (if s (g (151 + 3 * n)) && !tr g a n then 1 else 0)
def admB (g : Nat → Nat) (s : Nat → Bool) (a : Nat) : Nat → Bool
  | 0 => true
  | n + 1 => admB g s a n && (!s n || (g (14 + 11 * n) == 0 || (g (14 + 11 * n) == 1) == a.testBit n))
theorem cntF_le : ∀ n, cntF g s a n ≤ n := by
  intro n
  induction n with
  | zero => exact Nat.le_refl 0
  | succ n ih =>
    show cntF g s a n + (if s (g (151 + 3 * n)) && !tr g a n then 1 else 0) ≤ n + 1
    by_cases h : (s (g (151 + 3 * n)) && !tr g a n) = true
    · rw [if_p h]; omega
    · rw [if_n h]; omega
theorem cntF_mono {n : Nat} : ∀ k, k ≤ n → cntF g s a k ≤ cntF g s a n := by
  induction n with
  | zero => intro k hk; rw [show k = 0 by omega]; exact Nat.le_refl _
  | succ n ih =>
    intro k hk
    by_cases h : k = n + 1
    · rw [h]; exact Nat.le_refl _
    · have := ih k (by omega)
      show _ ≤ cntF g s a n + _
      omega
theorem xor_and1 {p q : Int32} : (p ^^^ q) &&& J 1 = (p &&& J 1) ^^^ (q &&& J 1) := by
  apply Int32.toBitVec_inj.mp
  show (p.toBitVec ^^^ q.toBitVec) &&& 1#32 = (p.toBitVec &&& 1#32) ^^^ (q.toBitVec &&& 1#32)
  apply BitVec.eq_of_getLsbD_eq
  intro i hi
  rw [BitVec.getLsbD_and, BitVec.getLsbD_xor, BitVec.getLsbD_xor, BitVec.getLsbD_and, BitVec.getLsbD_and]
  cases p.toBitVec.getLsbD i <;> cases q.toBitVec.getLsbD i <;> cases (1#32).getLsbD i <;> rfl
theorem M_isTrue {k : Nat} (hr : rowN d 293 0 g) (hw : WG g) (hk : k < g 4) : f_M_isTrue (J k) (J a) d = some (J (if tr g a k then 1 else 0)) := by
  have h12 := hw.ns
  have h8 := hw.nl
  obtain ⟨w1, w2, w3, w4⟩ := hw.2.2.2.2 k hk
  have e0 : d 293 (151 + 3 * k + 0) = J (g (151 + 3 * k)) := hr.at (by omega)
  have e1 : d 293 (151 + 3 * k + 1) = J (g (152 + 3 * k)) := by rw [hr.at (by omega), show 151 + 3 * k + 1 = 152 + 3 * k by omega]
  have e2 : d 293 (151 + 3 * k + 2) = J (g (153 + 3 * k)) := by rw [hr.at (by omega), show 151 + 3 * k + 2 = 153 + 3 * k by omega]
  unfold f_M_isTrue f_M_isTrue_28 f_M_isTrue_45 tr
  simp only [J_lit]
  rw [M_says (by omega) (by decide), M_says (by omega) (by decide), M_says (by omega) (by decide), ob1_s, ob1_s, ob1_s, ob1_s, e0, e1, e2, J_bit (by omega), J_bit (by omega)]
  generalize a.testBit (g (151 + 3 * k)) = b1
  generalize a.testBit (g (152 + 3 * k)) = b2
  rcases (by omega : g (153 + 3 * k) = 0 ∨ g (153 + 3 * k) = 1) with h | h <;> rw [h] <;> cases b1 <;> cases b2 <;> rfl
theorem C_isTrue {k : Nat} (hS : Sim d 2 g) (hw : WG g) (hk : k < g 4) : f_T_isTrue (J k) (J a) d = some (J (if tr g a k then 1 else 0)) := by
  have h12 := hw.ns
  have h8 := hw.nl
  obtain ⟨w1, w2, w3, w4⟩ := hw.2.2.2.2 k hk
  have e0 : d 23 k = J (g (151 + 3 * k)) := hS.sfi hk
  have e1 : d 24 k = J (g (152 + 3 * k)) := hS.sse hk
  have e2 : d 25 k = J (g (153 + 3 * k)) := hS.sto hk
  unfold f_T_isTrue f_T_isTrue_29 tr
  simp only [J_lit]
  rw [J_inb (by omega), gd_d (by omega), gd_d (by omega), gd_d (by omega), gd_d (by omega), J_nat (by omega), e0, e1, e2, xor_and1, J_bit (by omega), J_bit (by omega)]
  generalize a.testBit (g (151 + 3 * k)) = b1
  generalize a.testBit (g (152 + 3 * k)) = b2
  unfold bnd
  rcases (by omega : g (153 + 3 * k) = 0 ∨ g (153 + 3 * k) = 1) with h | h <;> rw [h] <;> cases b1 <;> cases b2 <;> rfl
theorem M_areTrue (hr : rowN d 293 0 g) (hw : WG g) (hs : ∀ i, i < 8 → m.toBitVec.getLsbD i = s i) : f_M_areTrue m (J a) d = some (J (if cntF g s a (g 4) = 0 then 1 else 0)) := by
  have h12 := hw.ns
  have h8 := hw.nl
  have e4 : d 293 4 = J (g 4) := hr.at (by decide)
  apply ok_eq
  unfold f_M_areTrue f_M_areTrue_2
  simp only [J_lit]
  by_cases hz : cntF g s a (g 4) = 0
  · rw [if_p hz]
    refine iter_up 0 (g 4) (fun n x => x = J n) rfl (by omega) (by omega) ?_ ?_
    · intro n x hn hx
      subst hx
      obtain ⟨w1, w2, w3, w4⟩ := hw.2.2.2.2 n hn
      have e0 : d 293 (151 + 3 * n + 0) = J (g (151 + 3 * n)) := hr.at (by omega)
      have hc : cntF g s a (n + 1) = 0 := by have := cntF_mono (g := g) (s := s) (a := a) (n := g 4) (n + 1) (by omega); omega
      unfold st_M_areTrue_2
      simp only [J_lit]
      rw [e4, if_n (fun q => by have := (J_le (by omega) (by omega)).mp q; omega), M_says (by omega) (by decide), ob1_s, e0, J_bitg (by omega), hs _ (by omega)]
      by_cases hsn : s (g (151 + 3 * n)) = true
      · have ht : tr g a n = true := by
          have hc' : cntF g s a n + (if s (g (151 + 3 * n)) && !tr g a n then 1 else 0) = 0 := hc
          cases h : tr g a n with
          | true => rfl
          | false =>
            rw [hsn, h] at hc'
            have : (if (true && !false) = true then 1 else 0) = 1 := rfl
            omega
        rw [hsn, if_p rfl, if_p rfl, M_isTrue hr hw hn, ht, ob1_s, if_p rfl, if_n n10, ok_s, J_add]
        exact Or.inl ⟨_, rfl, rfl⟩
      · rw [if_n hsn, if_n (J_ne (by decide) (by decide) (by decide)), ok_s, J_add]
        exact Or.inl ⟨_, rfl, rfl⟩
    · intro x hx
      subst hx
      unfold st_M_areTrue_2
      simp only [J_lit]
      rw [e4, if_p ((J_le (by omega) (by omega)).mpr (Nat.le_refl _)), ok_ir, ok_s]
      exact ⟨_, rfl, rfl⟩
  · rw [if_n hz]
    refine iter_up 0 (g 4) (fun n x => x = J n ∧ cntF g s a n = 0) ⟨rfl, rfl⟩ (by omega) (by omega) ?_ ?_
    · intro n x hn hx
      obtain ⟨rfl, hx⟩ := hx
      obtain ⟨w1, w2, w3, w4⟩ := hw.2.2.2.2 n hn
      have e0 : d 293 (151 + 3 * n + 0) = J (g (151 + 3 * n)) := hr.at (by omega)
      unfold st_M_areTrue_2
      simp only [J_lit]
      rw [e4, if_n (fun q => by have := (J_le (by omega) (by omega)).mp q; omega), M_says (by omega) (by decide), ob1_s, e0, J_bitg (by omega), hs _ (by omega)]
      by_cases hsn : s (g (151 + 3 * n)) = true
      · rw [hsn, if_p rfl, if_p rfl, M_isTrue hr hw hn, ob1_s]
        cases h : tr g a n with
        | true =>
          rw [if_p rfl, if_n n10, ok_s, J_add]
          refine Or.inl ⟨_, rfl, rfl, ?_⟩
          show cntF g s a n + (if s (g (151 + 3 * n)) && !tr g a n then 1 else 0) = 0
          rw [hsn, h, hx]
          rfl
        | false =>
          rw [if_p (show J (if false = true then 1 else 0) = J 0 from rfl), ok_ir, ok_s]
          exact Or.inr ⟨_, rfl, rfl⟩
      · rw [if_n hsn, if_n (J_ne (by decide) (by decide) (by decide)), ok_s, J_add]
        refine Or.inl ⟨_, rfl, rfl, ?_⟩
        show cntF g s a n + (if s (g (151 + 3 * n)) && !tr g a n then 1 else 0) = 0
        rw [Bool.not_eq_true] at hsn
        rw [hsn, hx]
        rfl
    · intro x hx
      exact absurd hx.2 hz
theorem C_countFalse (hS : Sim d 2 g) (hw : WG g) (hs : ∀ i, i < 8 → m.toBitVec.getLsbD i = s i) : f_T_countFalse m (J a) d = some (J (cntF g s a (g 4))) := by
  have h12 := hw.ns
  have h8 := hw.nl
  have e22 : d 22 0 = J (g 4) := hS.ns
  apply ok_eq
  unfold f_T_countFalse f_T_countFalse_5
  simp only [J_lit]
  refine iter_up 0 (g 4) (fun n x => x = (J (cntF g s a n), J n)) rfl (by omega) (by omega) ?_ ?_
  · intro n x hn hx
    subst hx
    obtain ⟨w1, w2, w3, w4⟩ := hw.2.2.2.2 n hn
    have e0 : d 23 n = J (g (151 + 3 * n)) := hS.sfi hn
    unfold st_T_countFalse_5
    simp only [J_lit]
    rw [e22, if_n (fun q => by have := (J_le (by omega) (by omega)).mp q; omega), J_inb (by omega), gd_d (by omega), J_nat (by omega), e0, J_bitg (by omega), hs _ (by omega), C_isTrue hS hw hn, ob1_s, J_add, J_add]
    have goal : ∀ v, v = cntF g s a n + (if s (g (151 + 3 * n)) && !tr g a n then 1 else 0) → (J v, J (n + 1)) = (J (cntF g s a (n + 1)), J (n + 1)) := fun v hv => by rw [hv]; rfl
    by_cases hsn : s (g (151 + 3 * n)) = true
    · rw [hsn, if_p rfl, if_p rfl]
      cases h : tr g a n with
      | true =>
        rw [if_p rfl, if_n n10, ok_s]
        exact Or.inl ⟨_, rfl, goal _ (by rw [hsn, h]; rfl)⟩
      | false =>
        rw [if_p (show J (if false = true then 1 else 0) = J 0 from rfl), ok_s]
        exact Or.inl ⟨_, rfl, goal _ (by rw [hsn, h]; rfl)⟩
    · rw [if_n hsn, if_n (J_ne (by decide) (by decide) (by decide)), ok_s]
      rw [Bool.not_eq_true] at hsn
      exact Or.inl ⟨_, rfl, goal _ (by rw [hsn]; rfl)⟩
  · intro x hx
    subst hx
    unfold st_T_countFalse_5
    simp only [J_lit]
    rw [e22, if_p ((J_le (by omega) (by omega)).mpr (Nat.le_refl _)), ok_ir, ok_s]
    exact ⟨_, rfl, rfl⟩
end TRUTH
