/-! 48: the plan: the keys, the greedy set, what the class's plan and the reference's find -/
section PLAN
variable {D : Nat} {d d1 : Dt} {g : Nat → Nat} {n m i j k r x y t b : Nat} {T : Nat}
def psb (g : Nat → Nat) (x : Nat) : Bool := !anyN (fun t => decide (t < dcn g x.testBit t)) 13
theorem psb_iff : psb g x = true ↔ psX g x.testBit := by
  unfold psb
  rw [Bool.not_eq_true', ← Bool.not_eq_true, anyN_iff]
  refine ⟨fun h t ht => ?_, fun h ⟨t, ht, hd⟩ => ?_⟩
  · apply Classical.byContradiction
    intro hn
    exact h ⟨t, ht, decide_eq_true (by omega)⟩
  · have := of_decide_eq_true hd
    have := h t ht
    omega
/-- first the dearer, then the one due before, then the one filed before -/
def kD (g : Nat → Nat) (k : Nat) : Nat := (100 - g (104 + 5 * k)) * 1000 + (g (103 + 5 * k) - g 1) * 16 + k
def kH (g : Nat → Nat) (k : Nat) : Nat := (g (103 + 5 * k) - g 1) * 16 + k
theorem key_lt {a b c d i j : Nat} (hb : b ≤ 12) (hd : d ≤ 12) (hi : i < 10) (hj : j < 10) : a * 1000 + b * 16 + i < c * 1000 + d * 16 + j ↔ a < c ∨ (a = c ∧ (b < d ∨ (b = d ∧ i < j))) := by omega
theorem key_eq {a b c d i j : Nat} (hb : b ≤ 12) (hd : d ≤ 12) (hi : i < 10) (hj : j < 10) (h : a * 1000 + b * 16 + i = c * 1000 + d * 16 + j) : i = j := by omega
theorem kD_inj (hw : WF D g) : ∀ i j, i < g 3 → j < g 3 → kD g i = kD g j → i = j := by
  intro i j hi hj h
  have h10 := hw.nb
  have a := (hw.br hi).2.2.2.1
  have b := (hw.br hj).2.2.2.1
  exact key_eq (by omega) (by omega) (by omega) (by omega) h
theorem kH_lt (hw : WF D g) (hi : i < g 3) (hj : j < g 3) : kH g i < kH g j ↔ g (103 + 5 * i) < g (103 + 5 * j) ∨ (g (103 + 5 * i) = g (103 + 5 * j) ∧ i < j) := by
  have h10 := hw.nb
  have a := (hw.br hi).2.2.1
  have b := (hw.br hj).2.2.1
  unfold kH
  omega
theorem kH_inj (hw : WF D g) : ∀ i j, i < g 3 → j < g 3 → kH g i = kH g j → i = j := by
  intro i j hi hj h
  have h1 := kH_lt hw hi hj
  have h2 := kH_lt hw hj hi
  omega
theorem kD_lt (hw : WF D g) (hi : i < g 3) (hj : j < g 3) : kD g i < kD g j ↔ g (104 + 5 * j) < g (104 + 5 * i) ∨ (g (104 + 5 * i) = g (104 + 5 * j) ∧ (g (103 + 5 * i) < g (103 + 5 * j) ∨ (g (103 + 5 * i) = g (103 + 5 * j) ∧ i < j))) := by
  have h10 := hw.nb
  obtain ⟨_, _, a1, a2, _, a3, _⟩ := hw.br hi
  obtain ⟨_, _, b1, b2, _, b3, _⟩ := hw.br hj
  unfold kD
  rw [key_lt (by omega) (by omega) (by omega) (by omega)]
  generalize g (104 + 5 * i) = p at *
  generalize g (104 + 5 * j) = q at *
  generalize g (103 + 5 * i) = u at *
  generalize g (103 + 5 * j) = v at *
  generalize g 1 = w at *
  omega
theorem kD_fee (hw : WF D g) : ∀ i b, i < g 3 → b < g 3 → kD g i < kD g b → g (104 + 5 * b) ≤ g (104 + 5 * i) := by
  intro i j hi hj h
  have := (kD_lt hw hi hj).mp h
  omega
def rkD (g : Nat → Nat) (i : Nat) : Nat := rkP (kD g) (fun _ => true) (g 3) i
/-- taken among the first r -/
def grT (g : Nat → Nat) : Nat → Nat
  | 0 => 0
  | r + 1 => if psb g (grT g r ||| 2 ^ vsO (kD g) (g 3) r (g 3)) then grT g r ||| 2 ^ vsO (kD g) (g 3) r (g 3) else grT g r
theorem grT_step (hw : WF D g) (hi : i < g 3) (hr : rkD g i = r) : grT g (r + 1) = if psb g (grT g r ||| 2 ^ i) then grT g r ||| 2 ^ i else grT g r := by
  show (if psb g (grT g r ||| 2 ^ vsO (kD g) (g 3) r (g 3)) then grT g r ||| 2 ^ vsO (kD g) (g 3) r (g 3) else grT g r) = _
  rw [vsO_of (kD_inj hw) hi hr (g 3) (Nat.le_refl _) hi]
theorem rkD_ex (hw : WF D g) (hr : r < g 3) : ∃ i, i < g 3 ∧ rkD g i = r := rk_ex (kD_inj hw) hr
theorem rkD_lt (hi : i < g 3) : rkD g i < g 3 := rk_lt hi
theorem rkD_iff (hi : i < g 3) : rkD g i < rkD g j ↔ kD g i < kD g j := rkP_iff hi rfl
theorem rkD_inj (hw : WF D g) (hi : i < g 3) (hj : j < g 3) (h : rkD g i = rkD g j) : i = j := rkP_inj (P := fun _ => true) (kD_inj hw) hi hj rfl rfl h
theorem grT_cases (hw : WF D g) (hi : i < g 3) (hr : rkD g i = r) : grT g (r + 1) = grT g r ||| 2 ^ i ∨ grT g (r + 1) = grT g r := by
  rw [grT_step hw hi hr]
  by_cases q : psb g (grT g r ||| 2 ^ i) = true
  · rw [if_p q]; exact Or.inl rfl
  · rw [if_n q]; exact Or.inr rfl
theorem grT_in (hw : WF D g) : ∀ r, r ≤ g 3 → ∀ i, (grT g r).testBit i = true → i < g 3 ∧ rkD g i < r := by
  intro r
  induction r with
  | zero =>
    intro _ i h
    rw [show grT g 0 = 0 from rfl, Nat.zero_testBit] at h
    cases h
  | succ r ih =>
    intro hr i h
    obtain ⟨v, v1, v2⟩ := rkD_ex hw (show r < g 3 by omega)
    rcases grT_cases hw v1 v2 with q | q
    · rw [q, Nat.testBit_or, Bool.or_eq_true, Nat.testBit_two_pow, decide_eq_true_iff] at h
      rcases h with h | h
      · have := ih (by omega) i h
        exact ⟨this.1, by omega⟩
      · rw [← h]
        exact ⟨v1, by omega⟩
    · rw [q] at h
      have := ih (by omega) i h
      exact ⟨this.1, by omega⟩
theorem grT_lt (hw : WF D g) (hr : r ≤ g 3) : grT g r < 2 ^ g 3 :=
  Nat.lt_pow_two_of_testBit _ (fun i hi => by
    cases h : (grT g r).testBit i with
    | false => rfl
    | true => have := (grT_in hw r hr i h).1; omega)
theorem grT_ps (hw : WF D g) : ∀ r, r ≤ g 3 → psX g (grT g r).testBit := by
  intro r
  induction r with
  | zero =>
    intro _ t _
    have : dcn g (grT g 0).testBit t = 0 := cnt_none (fun i _ => by rw [show grT g 0 = 0 from rfl, Nat.zero_testBit, Bool.false_and])
    omega
  | succ r ih =>
    intro hr
    obtain ⟨v, v1, v2⟩ := rkD_ex hw (show r < g 3 by omega)
    rw [grT_step hw v1 v2]
    by_cases q : psb g (grT g r ||| 2 ^ v) = true
    · rw [if_p q]; exact psb_iff.mp q
    · rw [if_n q]; exact ih (by omega)
theorem grT_same (hw : WF D g) (hi : i < g 3) (hr : r < g 3) (h : rkD g i ≠ r) : (grT g (r + 1)).testBit i = (grT g r).testBit i := by
  obtain ⟨v, v1, v2⟩ := rkD_ex hw hr
  rcases grT_cases hw v1 v2 with q | q
  · rw [q, Nat.testBit_or, Nat.testBit_two_pow, decide_eq_false (fun t => h (by rw [← t, v2])), Bool.or_false]
  · rw [q]
theorem grT_up (hw : WF D g) (hi : i < g 3) (h : rkD g i < r) : ∀ k, r + k ≤ g 3 → (grT g (r + k)).testBit i = (grT g r).testBit i := by
  intro k
  induction k with
  | zero => intro _; rfl
  | succ k ih =>
    intro hk
    rw [← ih (by omega)]
    exact grT_same (r := r + k) hw hi (by omega) (by omega)
theorem grT_cut (hw : WF D g) (hi : i < g 3) (hr : r ≤ g 3) : (grT g r).testBit i = ((grT g (g 3)).testBit i && decide (rkD g i < r)) := by
  by_cases h : rkD g i < r
  · have := grT_up hw hi h (g 3 - r) (by omega)
    rw [show r + (g 3 - r) = g 3 by omega] at this
    rw [decide_eq_true h, Bool.and_true, this]
  · rw [decide_eq_false h, Bool.and_false]
    cases q : (grT g r).testBit i with
    | false => rfl
    | true => exact absurd (grT_in hw r hr i q).2 h
theorem grT_grd (hw : WF D g) (hb : b < g 3) (h : (grT g (g 3)).testBit b = false) : ¬ psX g (fun i => ((grT g (g 3)).testBit i && decide (kD g i < kD g b)) || i == b) := by
  intro hp
  have hr := rkD_lt hb
  have h1 : (grT g (rkD g b + 1)).testBit b = false := by rw [grT_cut hw hb (by omega), h]; rfl
  rw [grT_step hw hb rfl] at h1
  by_cases q : psb g (grT g (rkD g b) ||| 2 ^ b) = true
  · rw [if_p q, Nat.testBit_or, Nat.testBit_two_pow_self, Bool.or_true] at h1
    cases h1
  · refine q (psb_iff.mpr (psX_mono (fun i hi hx => ?_) hp))
    rw [Nat.testBit_or, Bool.or_eq_true, Nat.testBit_two_pow, decide_eq_true_iff, grT_cut hw hi (by omega), Bool.and_eq_true, decide_eq_true_iff, rkD_iff hi] at hx
    rw [Bool.or_eq_true, Bool.and_eq_true, decide_eq_true_iff, beq_iff_eq]
    rcases hx with hx | hx
    · exact Or.inl hx
    · exact Or.inr hx.symm
/-- the briefs of the plan -/
def plT (g : Nat → Nat) : Nat := grT g (g 3)
def plN (g : Nat → Nat) : Nat := cntN (plT g).testBit (g 3)
/-- the place of a brief among those of the plan -/
def hpl (g : Nat → Nat) (i : Nat) : Nat := rkP (kH g) (plT g).testBit (g 3) i
theorem plT_best (hw : WF D g) (h : psb g x = true) : fsm g x.testBit (g 3) ≤ fsm g (plT g).testBit (g 3) :=
  greedy_best (K := kD g) hw (grT_ps hw _ (Nat.le_refl _)) (psb_iff.mp h) (fun _ hb h => grT_grd hw hb h) (kD_fee hw)
theorem plT_ps (hw : WF D g) : psb g (plT g) = true := psb_iff.mpr (grT_ps hw _ (Nat.le_refl _))
theorem plT_lt (hw : WF D g) : plT g < 2 ^ g 3 := grT_lt hw (Nat.le_refl _)
theorem plN_le : plN g ≤ g 3 := cntN_le _
theorem hpl_lt (hi : i < g 3) (h : (plT g).testBit i = true) : hpl g i < plN g := rkP_lt hi h
theorem hpl_ex (hw : WF D g) (hr : r < plN g) : ∃ i, i < g 3 ∧ (plT g).testBit i = true ∧ hpl g i = r := rkP_sur (kH_inj hw) (plN g) _ rfl r hr
theorem hpl_inj (hw : WF D g) (hi : i < g 3) (hj : j < g 3) (h1 : (plT g).testBit i = true) (h2 : (plT g).testBit j = true) (h : hpl g i = hpl g j) : i = j := rkP_inj (kH_inj hw) hi hj h1 h2 h
theorem pow1024 (hw : WF D g) : 2 ^ g 3 ≤ 1024 := Nat.le_trans (Nat.pow_le_pow_right (by decide) hw.nb) (by decide)
/-- differences of fees -/
theorem J_dif : ∀ a, a < 51 → ∀ b, b < 51 → ((J 0 < J a - J b) ↔ b < a) ∧ ((J a - J b = J 0) ↔ a = b) := by decide +kernel
theorem pc_cnt : ∀ n, pc x n = cntN x.testBit n := by
  intro n
  induction n with
  | zero => rfl
  | succ n ih =>
    show pc x n + _ = cntN x.testBit n + _
    rw [ih]
/-- the reference: can all be heard? -/
theorem M_pos13 (hr : rowN d 293 0 g) (hw : WF D g) (hD : D < 100000) (ht : t < 13) : f_M_isPossible_13 (J x) (J t) (J 0) (J 0) d = some (if dcn g x.testBit t ≤ t then .inl (J (t + 1)) else .inr (J 0)) := by
  have h10 := hw.nb
  have h1 := hw.day
  have e3 : d 293 3 = J (g 3) := hr.at (by decide)
  have e1 : d 293 1 = J (g 1) := hr.at (by decide)
  apply ok_eq
  unfold f_M_isPossible_13
  refine iter_up 0 (g 3) (fun n z => z = (J (cntN (fun i => x.testBit i && due g t i) n), J n)) rfl (Nat.zero_le _) (by omega) ?_ ?_
  · intro n z hn hz
    subst hz
    have hb := hw.br hn
    have e : cntN (fun i => x.testBit i && due g t i) (n + 1) = cntN (fun i => x.testBit i && due g t i) n + (if x.testBit n && due g t n then 1 else 0) := rfl
    have e2 : d 293 (101 + 5 * n + 2) = J (g (103 + 5 * n)) := by rw [hr.at (by omega), show 101 + 5 * n + 2 = 103 + 5 * n by omega]
    unfold st_M_isPossible_13
    simp only [J_lit]
    rw [e3, if_n (fun q => by have := (J_le (by omega) (by omega)).mp q; omega), M_brief (by omega) (by decide), ob1_s, e1, e2, J_bit (by omega), J_add, J_add, J_add, J_add, e]
    cases hx : x.testBit n with
    | false =>
      rw [if_n (show ¬ J (if false = true then 1 else 0) = J 1 by decide), ok_s]
      exact Or.inl ⟨_, rfl, rfl⟩
    | true =>
      rw [if_p (show J (if true = true then 1 else 0) = J 1 from rfl)]
      by_cases q : g (103 + 5 * n) ≤ g 1 + t
      · rw [if_n (fun u => by have := (J_lt (by omega) (by omega)).mp u; omega), ok_s, show due g t n = true from decide_eq_true q]
        exact Or.inl ⟨_, rfl, rfl⟩
      · rw [if_p ((J_lt (by omega) (by omega)).mpr (by omega)), ok_s, show due g t n = false from decide_eq_false q]
        exact Or.inl ⟨_, rfl, rfl⟩
  · intro z hz
    subst hz
    have hle := cntN_le (p := fun i => x.testBit i && due g t i) (g 3)
    unfold st_M_isPossible_13
    simp only [J_lit]
    rw [e3, if_p ((J_le (by omega) (by omega)).mpr (Nat.le_refl _)), ok_ir, J_add]
    show ok (if J (dcn g x.testBit t) ≤ J t then _ else _) _
    have hle2 : dcn g x.testBit t ≤ g 3 := hle
    by_cases q : dcn g x.testBit t ≤ t
    · rw [if_p ((J_le (by omega) (by omega)).mpr q), ok_s, if_p q]
      exact ⟨_, rfl, rfl⟩
    · rw [if_n (fun u => q ((J_le (by omega) (by omega)).mp u)), if_n q, ok_ir, ok_s]
      exact ⟨_, rfl, rfl⟩
theorem M_possible (hr : rowN d 293 0 g) (hw : WF D g) (hD : D < 100000) : f_M_isPossible (J x) d = some (J (if psb g x then 1 else 0)) := by
  apply ok_eq
  unfold f_M_isPossible f_M_isPossible_2
  simp only [J_lit]
  refine iter_up 1 13 (fun n z => z = J n ∧ ∀ t, t < n → dcn g x.testBit t ≤ t) ⟨rfl, fun t ht => by rw [show t = 0 by omega, dcn_0 hw]; exact Nat.le_refl _⟩ (by decide) (by decide) ?_ ?_
  · intro n z hn hz
    obtain ⟨rfl, hz⟩ := hz
    unfold st_M_isPossible_2
    simp only [J_lit]
    rw [if_n (fun q => by have := (J_lt (by decide) (by omega)).mp q; omega), M_pos13 hr hw hD hn, ok_s]
    by_cases q : dcn g x.testBit n ≤ n
    · rw [if_p q]
      refine Or.inl ⟨_, rfl, rfl, fun t ht => ?_⟩
      rcases (by omega : t < n ∨ t = n) with u | rfl
      · exact hz t u
      · exact q
    · rw [if_n q]
      refine Or.inr ⟨_, rfl, ?_⟩
      rw [if_n (fun u => q (psb_iff.mp u n hn))]
  · intro z hz
    obtain ⟨rfl, hz⟩ := hz
    unfold st_M_isPossible_2
    simp only [J_lit]
    rw [if_p (show J 12 < J 13 by decide), ok_ir, ok_s]
    refine ⟨_, rfl, ?_⟩
    rw [if_p (psb_iff.mpr hz)]
theorem M_dearer (hr : rowN d 293 0 g) (hw : WF D g) (hD : D < 100000) (hi : i < g 3) (hj : j < g 3) (hij : i ≠ j) : f_M_isDearer (J i) (J j) d = some (J (if kD g i < kD g j then 1 else 0)) := by
  have h10 := hw.nb
  have h2 := hw.nx
  have h1 := hw.day
  have a := hw.br hi
  have b := hw.br hj
  have hid : g (101 + 5 * j) ≤ g (101 + 5 * i) ↔ j ≤ i := by
    rcases (by omega : i < j ∨ j < i) with t | t
    · have := hw.ids t hj
      omega
    · have := hw.ids t hi
      omega
  have e0 : ∀ k, k < 10 → ∀ c, c < 5 → d 293 (101 + 5 * k + c) = J (g (101 + 5 * k + c)) := fun k hk c hc => hr.at (by omega)
  unfold f_M_isDearer
  simp only [J_lit]
  rw [M_brief (by omega) (by decide), M_brief (by omega) (by decide), M_brief (by omega) (by decide), M_brief (by omega) (by decide), M_brief (by omega) (by decide), M_brief (by omega) (by decide)]
  simp only [ob1_s]
  rw [e0 i (by omega) 3 (by decide), e0 j (by omega) 3 (by decide), e0 i (by omega) 2 (by decide), e0 j (by omega) 2 (by decide), e0 i (by omega) 0 (by decide), e0 j (by omega) 0 (by decide), show 101 + 5 * i + 3 = 104 + 5 * i by omega, show 101 + 5 * j + 3 = 104 + 5 * j by omega, show 101 + 5 * i + 2 = 103 + 5 * i by omega, show 101 + 5 * j + 2 = 103 + 5 * j by omega, Nat.add_zero, Nat.add_zero]
  have hk := kD_lt hw hi hj
  by_cases q1 : g (104 + 5 * i) = g (104 + 5 * j)
  · rw [if_p (by rw [q1])]
    by_cases q2 : g (103 + 5 * i) = g (103 + 5 * j)
    · rw [if_p (by rw [q2])]
      by_cases q3 : j ≤ i
      · rw [if_p ((J_le (by omega) (by omega)).mpr (hid.mpr q3)), if_n (fun u => by have := hk.mp u; omega)]
      · rw [if_n (fun u => q3 (hid.mp ((J_le (by omega) (by omega)).mp u))), if_p (hk.mpr (Or.inr ⟨q1, Or.inr ⟨q2, by omega⟩⟩))]
    · rw [if_n (J_ne q2 (by omega) (by omega))]
      by_cases q3 : g (103 + 5 * j) ≤ g (103 + 5 * i)
      · rw [if_p ((J_le (by omega) (by omega)).mpr q3), if_n (fun u => by have := hk.mp u; omega)]
      · rw [if_n (fun u => q3 ((J_le (by omega) (by omega)).mp u)), if_p (hk.mpr (Or.inr ⟨q1, Or.inl (by omega)⟩))]
  · rw [if_n (J_ne q1 (by omega) (by omega))]
    by_cases q3 : g (104 + 5 * i) ≤ g (104 + 5 * j)
    · rw [if_p ((J_le (by omega) (by omega)).mpr q3), if_n (fun u => by have := hk.mp u; omega)]
    · rw [if_n (fun u => q3 ((J_le (by omega) (by omega)).mp u)), if_p (hk.mpr (Or.inl (by omega)))]
/-- the ones of rank below r -/
def sn (g : Nat → Nat) (s r : Nat) : Prop := s < 2 ^ g 3 ∧ ∀ i, i < g 3 → s.testBit i = decide (rkD g i < r)
theorem M_plan22 {s : Nat} (hr : rowN d 293 0 g) (hw : WF D g) (hD : D < 100000) (hs : sn g s r) (hi : i < g 3) (hri : rkD g i = r) : f_M_plan_22 (J s) (J (grT g r)) (J r) (-J 1) (J 0) d = some (.inl (J (s ||| 2 ^ i), J (grT g (r + 1)), J (r + 1))) := by
  have h10 := hw.nb
  have hp := pow1024 hw
  have e3 : d 293 3 = J (g 3) := hr.at (by decide)
  have hrl := rkD_lt hi
  obtain ⟨s1, s2⟩ := hs
  apply ok_eq
  unfold f_M_plan_22
  refine iter_up 0 (g 3) (fun n z => ((z = (-J 1, J n) ∧ ∀ j, j < n → rkD g j < r) ∨ ∃ b, b < n ∧ z = (J b, J n) ∧ r ≤ rkD g b ∧ ∀ j, j < n → r ≤ rkD g j → kD g b ≤ kD g j)) (Or.inl ⟨rfl, fun j hj => absurd hj (Nat.not_lt_zero j)⟩) (Nat.zero_le _) (by omega) ?_ ?_
  · intro n z hn hz
    have sb : s.testBit n = decide (rkD g n < r) := s2 n hn
    rcases hz with ⟨rfl, hz⟩ | ⟨b, hb, rfl, hz1, hz2⟩
    · unfold st_M_plan_22
      simp only [J_lit]
      rw [e3, if_n (fun q => by have := (J_le (by omega) (by omega)).mp q; omega), J_bit (by omega), sb, J_add]
      by_cases q : rkD g n < r
      · rw [decide_eq_true q, if_n (show ¬ J (if true = true then 1 else 0) = J 0 by decide), ok_s]
        refine Or.inl ⟨_, rfl, Or.inl ⟨rfl, fun j hj => ?_⟩⟩
        rcases (by omega : j < n ∨ j = n) with t | rfl
        · exact hz j t
        · exact q
      · rw [decide_eq_false q, if_p (show J (if false = true then 1 else 0) = J 0 by decide), if_p (show -J 1 < J 0 by decide), ok_s]
        refine Or.inl ⟨_, rfl, Or.inr ⟨n, Nat.lt_succ_self n, rfl, by omega, fun j hj hj2 => ?_⟩⟩
        rcases (by omega : j < n ∨ j = n) with t | rfl
        · have := hz j t
          omega
        · exact Nat.le_refl _
    · unfold st_M_plan_22
      simp only [J_lit]
      rw [e3, if_n (fun q => by have := (J_le (by omega) (by omega)).mp q; omega), J_bit (by omega), sb, J_add]
      by_cases q : rkD g n < r
      · rw [decide_eq_true q, if_n (show ¬ J (if true = true then 1 else 0) = J 0 by decide), ok_s]
        refine Or.inl ⟨_, rfl, Or.inr ⟨b, by omega, rfl, hz1, fun j hj hj2 => ?_⟩⟩
        rcases (by omega : j < n ∨ j = n) with t | rfl
        · exact hz2 j t hj2
        · omega
      · rw [decide_eq_false q, if_p (show J (if false = true then 1 else 0) = J 0 by decide), if_n (J_neg (by omega)), M_dearer hr hw hD hn (by omega) (by omega), ob1_s]
        by_cases q2 : kD g n < kD g b
        · rw [if_p q2, if_n n10, ok_s]
          refine Or.inl ⟨_, rfl, Or.inr ⟨n, Nat.lt_succ_self n, rfl, by omega, fun j hj hj2 => ?_⟩⟩
          rcases (by omega : j < n ∨ j = n) with t | rfl
          · have := hz2 j t hj2
            omega
          · exact Nat.le_refl _
        · rw [if_n q2, if_p rfl, ok_s]
          refine Or.inl ⟨_, rfl, Or.inr ⟨b, by omega, rfl, hz1, fun j hj hj2 => ?_⟩⟩
          rcases (by omega : j < n ∨ j = n) with t | rfl
          · exact hz2 j t hj2
          · omega
  · intro z hz
    rcases hz with ⟨rfl, hz⟩ | ⟨b, hb, rfl, hz1, hz2⟩
    · have := hz i hi
      omega
    · have hbi : b = i := by
        have h1 := hz2 i hi (by omega)
        refine rkD_inj hw hb hi ?_
        rcases (by omega : kD g b < kD g i ∨ kD g b = kD g i) with t | t
        · have := (rkD_iff hb).mpr t
          omega
        · rw [kD_inj hw b i hb hi t]
      subst hbi
      have hg := grT_step hw hb hri
      unfold st_M_plan_22
      simp only [J_lit]
      rw [e3, if_p ((J_le (by omega) (by omega)).mpr (Nat.le_refl _)), ok_ir, J_shl (by omega), J_or, J_or, M_possible hr hw hD, ob1_s, J_add]
      by_cases q : psb g (grT g r ||| 2 ^ b) = true
      · rw [if_p q] at hg
        rw [if_p q, if_n n10, ok_s, hg]
        exact ⟨_, rfl, rfl⟩
      · rw [if_n q] at hg
        rw [if_n q, if_p rfl, ok_s, hg]
        exact ⟨_, rfl, rfl⟩
theorem M_plan (hr : rowN d 293 0 g) (hw : WF D g) (hD : D < 100000) : f_M_plan d = some (J (plT g)) := by
  have h10 := hw.nb
  have e3 : d 293 3 = J (g 3) := hr.at (by decide)
  apply ok_eq
  unfold f_M_plan f_M_plan_6
  simp only [J_lit]
  refine iter_up 0 (g 3) (fun n z => ∃ s, z = (J s, J (grT g n), J n) ∧ sn g s n) ⟨0, rfl, Nat.two_pow_pos _, fun i hi => by rw [Nat.zero_testBit, decide_eq_false (Nat.not_lt_zero _)]⟩ (Nat.zero_le _) (by omega) ?_ ?_
  · intro n z hn hz
    obtain ⟨s, rfl, hs⟩ := hz
    obtain ⟨i, hi, hri⟩ := rkD_ex hw hn
    unfold st_M_plan_6
    simp only [J_lit]
    rw [e3, if_n (fun q => by have := (J_le (by omega) (by omega)).mp q; omega), M_plan22 hr hw hD hs hi hri, ok_s]
    refine Or.inl ⟨_, rfl, _, rfl, Nat.or_lt_two_pow hs.1 (Nat.pow_lt_pow_right (by decide) hi), fun j hj => ?_⟩
    rw [Nat.testBit_or, hs.2 j hj, Nat.testBit_two_pow]
    by_cases q : i = j
    · rw [← q, hri, decide_eq_true rfl, Bool.or_true, decide_eq_true (Nat.lt_succ_self n)]
    · rw [decide_eq_false q, Bool.or_false]
      have hne : rkD g j ≠ n := fun t => q (rkD_inj hw hi hj (hri.trans t.symm))
      by_cases q2 : rkD g j < n
      · rw [decide_eq_true q2, decide_eq_true (by omega)]
      · rw [decide_eq_false q2, decide_eq_false (by omega)]
  · intro z hz
    obtain ⟨s, rfl, hs⟩ := hz
    unfold st_M_plan_6
    simp only [J_lit]
    rw [e3, if_p ((J_le (by omega) (by omega)).mpr (Nat.le_refl _)), ok_ir, ok_s]
    exact ⟨_, rfl, rfl⟩
theorem M_feesOf (hr : rowN d 293 0 g) (hw : WF D g) : f_M_feesOf (J x) d = some (J (fsm g x.testBit (g 3))) := by
  have h10 := hw.nb
  have e3 : d 293 3 = J (g 3) := hr.at (by decide)
  apply ok_eq
  unfold f_M_feesOf f_M_feesOf_4
  simp only [J_lit]
  refine iter_up 0 (g 3) (fun n z => z = (J (fsm g x.testBit n), J n)) rfl (Nat.zero_le _) (by omega) ?_ ?_
  · intro n z hn hz
    subst hz
    have e2 : d 293 (101 + 5 * n + 3) = J (g (104 + 5 * n)) := by rw [hr.at (by omega), show 101 + 5 * n + 3 = 104 + 5 * n by omega]
    have e : fsm g x.testBit (n + 1) = fsm g x.testBit n + (if x.testBit n then g (104 + 5 * n) else 0) := rfl
    unfold st_M_feesOf_4
    simp only [J_lit]
    rw [e3, if_n (fun q => by have := (J_le (by omega) (by omega)).mp q; omega), M_brief (by omega) (by decide), ob1_s, e2, J_bit (by omega), J_mul, J_add, J_add, ok_s, e]
    refine Or.inl ⟨_, rfl, ?_⟩
    cases x.testBit n
    · show (J (fsm g x.testBit n + 0 * g (104 + 5 * n)), _) = _
      rw [Nat.zero_mul]
      rfl
    · show (J (fsm g x.testBit n + 1 * g (104 + 5 * n)), _) = _
      rw [Nat.one_mul]
      rfl
  · intro z hz
    subst hz
    unfold st_M_feesOf_4
    simp only [J_lit]
    rw [e3, if_p ((J_le (by omega) (by omega)).mpr (Nat.le_refl _)), ok_ir, ok_s]
    exact ⟨_, rfl, rfl⟩
/-- which brief has place r -/
theorem M_hearing29 (hr : rowN d 293 0 g) (hw : WF D g) (hD : D < 100000) (hi : i < g 3) (hrl : r < 11) : f_M_hearing_29 (J (plT g)) (J r) (J i) (J 0) (J 0) d = some (if hpl g i = r then .inr (J i) else .inl (J (i + 1))) := by
  have h10 := hw.nb
  have h1 := hw.day
  have e3 : d 293 3 = J (g 3) := hr.at (by decide)
  have bi := hw.br hi
  have hT := plT_lt hw
  have hp := pow1024 hw
  apply ok_eq
  unfold f_M_hearing_29
  refine iter_up 0 (g 3) (fun n z => z = (J (cntN (fun j => (plT g).testBit j && decide (kH g j < kH g i)) n), J n)) rfl (Nat.zero_le _) (by omega) ?_ ?_
  · intro n z hn hz
    subst hz
    have bn := hw.br hn
    have e2 : ∀ k, k < 10 → d 293 (101 + 5 * k + 2) = J (g (103 + 5 * k)) := fun k hk => by rw [hr.at (by omega), show 101 + 5 * k + 2 = 103 + 5 * k by omega]
    have e : cntN (fun j => (plT g).testBit j && decide (kH g j < kH g i)) (n + 1) = cntN (fun j => (plT g).testBit j && decide (kH g j < kH g i)) n + (if (plT g).testBit n && decide (kH g n < kH g i) then 1 else 0) := rfl
    have hk := kH_lt hw hn hi
    unfold st_M_hearing_29
    simp only [J_lit]
    rw [e3, if_n (fun q => by have := (J_le (by omega) (by omega)).mp q; omega), M_brief (by omega) (by decide), M_brief (by omega) (by decide)]
    simp only [ob1_s]
    rw [e2 n (by omega), e2 i (by omega), J_bit (by omega), J_add, J_add, J_add, e]
    cases hx : (plT g).testBit n with
    | false =>
      rw [if_n (show ¬ J (if false = true then 1 else 0) = J 1 by decide), ok_s]
      exact Or.inl ⟨_, rfl, rfl⟩
    | true =>
      rw [if_p (show J (if true = true then 1 else 0) = J 1 from rfl)]
      by_cases q1 : g (103 + 5 * n) < g (103 + 5 * i)
      · rw [if_p ((J_lt (by omega) (by omega)).mpr q1), ok_s, decide_eq_true (hk.mpr (Or.inl q1))]
        exact Or.inl ⟨_, rfl, rfl⟩
      · rw [if_n (fun u => q1 ((J_lt (by omega) (by omega)).mp u))]
        by_cases q2 : g (103 + 5 * n) = g (103 + 5 * i)
        · rw [if_p (by rw [q2])]
          by_cases q3 : i ≤ n
          · rw [if_p ((J_le (by omega) (by omega)).mpr q3), ok_s, decide_eq_false (fun u => by have := hk.mp u; omega)]
            exact Or.inl ⟨_, rfl, rfl⟩
          · rw [if_n (fun u => q3 ((J_le (by omega) (by omega)).mp u)), ok_s, decide_eq_true (hk.mpr (Or.inr ⟨q2, by omega⟩))]
            exact Or.inl ⟨_, rfl, rfl⟩
        · rw [if_n (J_ne q2 (by omega) (by omega)), ok_s, decide_eq_false (fun u => by have := hk.mp u; omega)]
          exact Or.inl ⟨_, rfl, rfl⟩
  · intro z hz
    subst hz
    have hle : hpl g i ≤ g 3 := cntN_le _
    unfold st_M_hearing_29
    simp only [J_lit]
    rw [e3, if_p ((J_le (by omega) (by omega)).mpr (Nat.le_refl _)), ok_ir, J_add]
    show ok (if J (hpl g i) = J r then _ else _) _
    by_cases q : hpl g i = r
    · rw [if_p (by rw [q]), ok_ir, ok_s, if_p q]
      exact ⟨_, rfl, rfl⟩
    · rw [if_n (J_ne q (by omega) (by omega)), ok_s, if_n q]
      exact ⟨_, rfl, rfl⟩
theorem M_hearing (hr : rowN d 293 0 g) (hw : WF D g) (hD : D < 100000) (hi : i < g 3) (hT : (plT g).testBit i = true) : f_M_hearing (J (plT g)) (J (hpl g i)) d = some (J i) := by
  have h10 := hw.nb
  have e3 : d 293 3 = J (g 3) := hr.at (by decide)
  have hl := hpl_lt hi hT
  have hl2 := plN_le (g := g)
  apply ok_eq
  unfold f_M_hearing f_M_hearing_2
  simp only [J_lit]
  refine iter_up 0 i (fun n z => z = J n) rfl (Nat.zero_le _) (by omega) ?_ ?_
  · intro n z hn hz
    subst hz
    unfold st_M_hearing_2
    simp only [J_lit]
    rw [e3, if_n (fun q => by have := (J_le (by omega) (by omega)).mp q; omega), J_bit (by omega), J_add]
    cases hx : (plT g).testBit n with
    | false =>
      rw [if_p (show J (if false = true then 1 else 0) = J 0 by decide), ok_s]
      exact Or.inl ⟨_, rfl, rfl⟩
    | true =>
      rw [if_n (show ¬ J (if true = true then 1 else 0) = J 0 by decide), M_hearing29 hr hw hD (by omega) (by omega), ok_s, if_n (fun u => by have := hpl_inj hw (by omega) hi hx hT u; omega)]
      exact Or.inl ⟨_, rfl, rfl⟩
  · intro z hz
    subst hz
    unfold st_M_hearing_2
    simp only [J_lit]
    rw [e3, if_n (fun q => by have := (J_le (by omega) (by omega)).mp q; omega), J_bit (by omega), hT, if_n (show ¬ J (if true = true then 1 else 0) = J 0 by decide), M_hearing29 hr hw hD hi (by omega), ok_s, if_p rfl]
    exact ⟨_, rfl, rfl⟩
end PLAN
