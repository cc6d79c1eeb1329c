/-! 47: ranks; sets of briefs that can all be heard; the greedy choice is the dearest -/
section RK
variable {K : Nat → Nat} {P p q A B : Nat → Bool} {n m i j k r x y t : Nat} {D : Nat} {g : Nat → Nat}
theorem cnt_le : ∀ n, (∀ j, j < n → p j = true → q j = true) → cntN p n ≤ cntN q n := by
  intro n
  induction n with
  | zero => intro _; exact Nat.le_refl _
  | succ n ih =>
    intro h
    have := ih (fun j hj => h j (by omega))
    show cntN p n + (if p n then 1 else 0) ≤ cntN q n + (if q n then 1 else 0)
    cases e : p n with
    | false =>
      show cntN p n + 0 ≤ _
      omega
    | true =>
      rw [h n (Nat.lt_succ_self n) e]
      show cntN p n + 1 ≤ cntN q n + 1
      omega
theorem cnt_lt (h : ∀ j, j < n → p j = true → q j = true) (hk : k < n) (hq : q k = true) (hp : p k = false) : cntN p n < cntN q n := by
  have h1 := cntN_rem hq n
  rw [if_p hk] at h1
  have h2 : cntN p n ≤ cntN (fun i => q i && !(i == k)) n := cnt_le n (fun j hj hpj => by
    have hne : j ≠ k := fun t => by
      rw [t, hp] at hpj
      cases hpj
    rw [h j hj hpj, beq_eq_false_iff_ne.mpr hne]
    rfl)
  omega
theorem cnt_split : ∀ n, cntN p n = cntN (fun i => p i && q i) n + cntN (fun i => p i && !q i) n := by
  intro n
  induction n with
  | zero => rfl
  | succ n ih =>
    show cntN p n + (if p n then 1 else 0) = cntN (fun i => p i && q i) n + (if p n && q n then 1 else 0) + (cntN (fun i => p i && !q i) n + (if p n && !q n then 1 else 0))
    rw [ih]
    cases p n <;> cases q n <;> simp <;> omega
/-- how many of P come before i -/
def rkP (K : Nat → Nat) (P : Nat → Bool) (n i : Nat) : Nat := cntN (fun j => P j && decide (K j < K i)) n
theorem rkP_lt (hi : i < n) (hP : P i = true) : rkP K P n i < cntN P n :=
  cnt_lt (fun j _ h => (Bool.and_eq_true _ _ ▸ h).1) hi hP (by rw [hP, decide_eq_false (Nat.lt_irrefl _)]; rfl)
theorem rkP_mono (h : K i < K j) (hi : i < n) (hP : P i = true) : rkP K P n i < rkP K P n j :=
  cnt_lt (fun k _ hk => by
    rw [Bool.and_eq_true, decide_eq_true_iff] at hk ⊢
    exact ⟨hk.1, by omega⟩) hi (by rw [hP, decide_eq_true h]; rfl) (by rw [hP, decide_eq_false (Nat.lt_irrefl _)]; rfl)
theorem rkP_le (h : K i ≤ K j) : rkP K P n i ≤ rkP K P n j :=
  cnt_le n (fun k _ hk => by
    rw [Bool.and_eq_true, decide_eq_true_iff] at hk ⊢
    exact ⟨hk.1, by omega⟩)
theorem rkP_iff (hi : i < n) (hP : P i = true) : rkP K P n i < rkP K P n j ↔ K i < K j := by
  refine ⟨fun h => ?_, fun h => rkP_mono h hi hP⟩
  apply Classical.byContradiction
  intro hn
  have := rkP_le (K := K) (P := P) (n := n) (show K j ≤ K i by omega)
  omega
theorem rkP_inj (hK : ∀ i j, i < n → j < n → K i = K j → i = j) (hi : i < n) (hj : j < n) (hPi : P i = true) (hPj : P j = true) (h : rkP K P n i = rkP K P n j) : i = j := by
  apply hK i j hi hj
  rcases Nat.lt_trichotomy (K i) (K j) with t | t | t
  · have := rkP_mono (n := n) (P := P) t hi hPi
    omega
  · exact t
  · have := rkP_mono (n := n) (P := P) t hj hPj
    omega
theorem maxK : ∀ n, (∃ k, k < n ∧ P k = true) → ∃ e, e < n ∧ P e = true ∧ ∀ j, j < n → P j = true → K j ≤ K e := by
  intro n
  induction n with
  | zero => intro ⟨k, hk, _⟩; omega
  | succ n ih =>
    intro ⟨k, hk, hPk⟩
    by_cases h : ∃ k, k < n ∧ P k = true
    · obtain ⟨e, e1, e2, e3⟩ := ih h
      by_cases h2 : P n = true ∧ K e < K n
      · refine ⟨n, Nat.lt_succ_self n, h2.1, fun j hj hPj => ?_⟩
        rcases (by omega : j < n ∨ j = n) with t | rfl
        · have := e3 j t hPj
          omega
        · exact Nat.le_refl _
      · refine ⟨e, by omega, e2, fun j hj hPj => ?_⟩
        rcases (by omega : j < n ∨ j = n) with t | rfl
        · exact e3 j t hPj
        · apply Classical.byContradiction
          intro hn
          exact h2 ⟨hPj, by omega⟩
    · have hkn : k = n := by
        rcases (by omega : k < n ∨ k = n) with t | t
        · exact absurd ⟨k, t, hPk⟩ h
        · exact t
      subst hkn
      refine ⟨k, hk, hPk, fun j hj hPj => ?_⟩
      rcases (by omega : j < k ∨ j = k) with t | rfl
      · exact absurd ⟨j, t, hPj⟩ h
      · exact Nat.le_refl _
theorem rkP_sur (hK : ∀ i j, i < n → j < n → K i = K j → i = j) : ∀ m (P : Nat → Bool), cntN P n = m → ∀ r, r < m → ∃ i, i < n ∧ P i = true ∧ rkP K P n i = r := by
  intro m
  induction m with
  | zero => intro P _ r hr; omega
  | succ m ih =>
    intro P hm r hr
    obtain ⟨e, e1, e2, e3⟩ := maxK (K := K) n (pos_ex.mp (show 0 < cntN P n by omega))
    have h1 := cntN_rem e2 n
    rw [if_p e1] at h1
    by_cases q : r = m
    · refine ⟨e, e1, e2, ?_⟩
      have : rkP K P n e = cntN (fun i => P i && !(i == e)) n := cntN_congr n (fun j hj => by
        cases hPj : P j with
        | false => rfl
        | true =>
          by_cases t : j = e
          · rw [t, beq_self_eq_true, decide_eq_false (Nat.lt_irrefl _)]
            rfl
          · have := e3 j hj hPj
            have hne : K j ≠ K e := fun u => t (hK j e hj e1 u)
            rw [beq_eq_false_iff_ne.mpr t, decide_eq_true (by omega)]
            rfl)
      omega
    · obtain ⟨i, i1, i2, i3⟩ := ih (fun i => P i && !(i == e)) (by omega) r (by omega)
      rw [Bool.and_eq_true] at i2
      refine ⟨i, i1, i2.1, ?_⟩
      rw [← i3]
      refine cntN_congr n (fun j hj => ?_)
      show (P j && decide (K j < K i)) = ((P j && !(j == e)) && decide (K j < K i))
      by_cases t : j = e
      · have := e3 i i1 i2.1
        rw [t, beq_self_eq_true, decide_eq_false (by omega), Bool.and_false, Bool.and_false]
      · rw [beq_eq_false_iff_ne.mpr t, Bool.not_false, Bool.and_true]
/-- the number of rank r -/
def vsO (K : Nat → Nat) (n r : Nat) : Nat → Nat
  | 0 => 0
  | k + 1 => if rkP K (fun _ => true) n k = r then k else vsO K n r k
theorem vsO_of (hK : ∀ i j, i < n → j < n → K i = K j → i = j) (hi : i < n) (hr : rkP K (fun _ => true) n i = r) : ∀ k, k ≤ n → i < k → vsO K n r k = i := by
  intro k
  induction k with
  | zero => intro _ h; omega
  | succ k ih =>
    intro h1 h2
    show (if rkP K (fun _ => true) n k = r then k else vsO K n r k) = i
    by_cases e : k = i
    · rw [e, if_p hr]
    · rw [if_n (fun t => e (rkP_inj (P := fun _ => true) hK (by omega) hi rfl rfl (t.trans hr.symm)))]
      exact ih (by omega) (by omega)
theorem cntN_true : ∀ n, cntN (fun _ => true) n = n := by
  intro n
  induction n with
  | zero => rfl
  | succ n ih =>
    show cntN (fun _ => true) n + 1 = n + 1
    rw [ih]
theorem rk_ex (hK : ∀ i j, i < n → j < n → K i = K j → i = j) (hr : r < n) : ∃ i, i < n ∧ rkP K (fun _ => true) n i = r := by
  obtain ⟨i, h1, _, h2⟩ := rkP_sur hK n (fun _ => true) (cntN_true n) r hr
  exact ⟨i, h1, h2⟩
theorem rk_lt (hi : i < n) : rkP K (fun _ => true) n i < n := by
  have := rkP_lt (K := K) (P := fun _ => true) hi rfl
  rwa [cntN_true] at this
/-- due within t days -/
def due (g : Nat → Nat) (t i : Nat) : Bool := decide (g (103 + 5 * i) ≤ g 1 + t)
def dcn (g : Nat → Nat) (X : Nat → Bool) (t : Nat) : Nat := cntN (fun i => X i && due g t i) (g 3)
/-- all of X can be heard -/
def psX (g : Nat → Nat) (X : Nat → Bool) : Prop := ∀ t, t < 13 → dcn g X t ≤ t
theorem dcn_mono (h : ∀ i, i < g 3 → A i = true → B i = true) : dcn g A t ≤ dcn g B t :=
  cnt_le _ (fun j hj hp => by
    rw [Bool.and_eq_true] at hp ⊢
    exact ⟨h j hj hp.1, hp.2⟩)
theorem psX_mono (h : ∀ i, i < g 3 → A i = true → B i = true) (hB : psX g B) : psX g A := fun t ht => Nat.le_trans (dcn_mono h) (hB t ht)
theorem lastT {Q : Nat → Prop} (h0 : Q 0) : ∀ n, ∃ t, t ≤ n ∧ Q t ∧ ∀ u, t < u → u ≤ n → ¬ Q u := by
  intro n
  induction n with
  | zero => exact ⟨0, Nat.le_refl _, h0, fun u h1 h2 => by omega⟩
  | succ n ih =>
    by_cases h : Q (n + 1)
    · exact ⟨n + 1, Nat.le_refl _, h, fun u h1 h2 => by omega⟩
    · obtain ⟨t, t1, t2, t3⟩ := ih
      refine ⟨t, by omega, t2, fun u h1 h2 => ?_⟩
      rcases (by omega : u ≤ n ∨ u = n + 1) with q | q
      · exact t3 u h1 q
      · rw [q]; exact h
theorem due_12 (hw : WF D g) (hi : i < g 3) : due g 12 i = true := decide_eq_true (hw.br hi).2.2.2.1
theorem due_0 (hw : WF D g) (hi : i < g 3) : due g 0 i = false := decide_eq_false (by have := (hw.br hi).2.2.1; omega)
theorem due_up (h : due g t i = true) (hu : t ≤ k) : due g k i = true := decide_eq_true (by have := of_decide_eq_true h; omega)
theorem cnt_none (h : ∀ i, i < n → p i = false) : cntN p n = 0 := by
  rw [cntN_congr (q := fun _ => false) n h, cntN_zero]
  cases hh : anyN (fun _ => false) n with
  | false => rfl
  | true =>
    obtain ⟨k, _, hk⟩ := (anyN_iff n).mp hh
    cases hk
theorem dcn_0 (hw : WF D g) : dcn g A 0 = 0 := cnt_none (fun i hi => by rw [due_0 hw hi, Bool.and_false])
theorem dcn_12 (hw : WF D g) : dcn g A 12 = cntN A (g 3) := cntN_congr _ (fun i hi => by rw [due_12 hw hi, Bool.and_true])
theorem cnt_put {w : Nat → Bool} (hk : k < n) : cntN (fun i => (A i || i == k) && w i) n ≤ cntN (fun i => A i && w i) n + 1 := by
  cases hwk : w k with
  | false =>
    have : cntN (fun i => (A i || i == k) && w i) n ≤ cntN (fun i => A i && w i) n := cnt_le n (fun j hj h => by
      rw [Bool.and_eq_true, Bool.or_eq_true, beq_iff_eq] at h
      rw [Bool.and_eq_true]
      rcases h.1 with t | t
      · exact ⟨t, h.2⟩
      · have := h.2
        rw [t, hwk] at this
        cases this)
    omega
  | true =>
    have h1 := cntN_rem (q := fun i => (A i || i == k) && w i) (k := k) (by rw [hwk, beq_self_eq_true, Bool.or_true]; rfl) n
    rw [if_p hk] at h1
    have : cntN (fun i => ((A i || i == k) && w i) && !(i == k)) n ≤ cntN (fun i => A i && w i) n := cnt_le n (fun j hj h => by
      rw [Bool.and_eq_true, Bool.and_eq_true, Bool.or_eq_true, beq_iff_eq] at h
      rw [Bool.and_eq_true]
      rcases h.1.1 with t | t
      · exact ⟨t, h.1.2⟩
      · have := h.2
        rw [t, beq_self_eq_true] at this
        cases this)
    omega
/-- a larger set that can be heard has one to add -/
theorem augm (hw : WF D g) (hA : psX g A) (hB : psX g B) (hlt : cntN A (g 3) < cntN B (g 3)) : ∃ b, b < g 3 ∧ B b = true ∧ A b = false ∧ psX g (fun i => A i || i == b) := by
  obtain ⟨t, t1, t2, t3⟩ := lastT (Q := fun t => dcn g B t ≤ dcn g A t) (by rw [dcn_0 hw, dcn_0 hw]; exact Nat.le_refl _) 12
  have ht : t ≠ 12 := fun h => by
    rw [h, dcn_12 hw, dcn_12 hw] at t2
    omega
  have hex : ∃ b, b < g 3 ∧ (B b && !due g t b) = true ∧ A b = false := by
    apply Classical.byContradiction
    intro hn
    have e1 := cnt_split (p := B) (q := due g t) (g 3)
    have e2 := cnt_split (p := A) (q := due g t) (g 3)
    have e3 : cntN (fun i => B i && !due g t i) (g 3) ≤ cntN (fun i => A i && !due g t i) (g 3) := cnt_le _ (fun j hj h => by
      cases hAj : A j with
      | true =>
        rw [Bool.and_eq_true] at h
        rw [Bool.true_and]
        exact h.2
      | false => exact absurd ⟨j, hj, h, hAj⟩ hn)
    have e4 : cntN (fun i => B i && due g t i) (g 3) ≤ cntN (fun i => A i && due g t i) (g 3) := t2
    omega
  obtain ⟨b, b1, b2, b3⟩ := hex
  rw [Bool.and_eq_true, Bool.not_eq_true'] at b2
  refine ⟨b, b1, b2.1, b3, fun u hu => ?_⟩
  cases hd : due g u b with
  | false =>
    have e : dcn g (fun i => A i || i == b) u = dcn g A u := cntN_congr _ (fun i hi => by
      show ((A i || i == b) && due g u i) = (A i && due g u i)
      by_cases q : i = b
      · rw [q, hd, Bool.and_false, Bool.and_false]
      · rw [beq_eq_false_iff_ne.mpr q, Bool.or_false])
    rw [e]
    exact hA u hu
  | true =>
    have hut : t < u := by
      apply Classical.byContradiction
      intro hn
      have := due_up hd (show u ≤ t by omega)
      rw [b2.2] at this
      cases this
    have h1 : ¬ dcn g B u ≤ dcn g A u := t3 u hut (by omega)
    have h2 := hB u hu
    have h3 : dcn g (fun i => A i || i == b) u ≤ dcn g A u + 1 := cnt_put b1
    omega
/-- the fees of a set -/
def fsm (g : Nat → Nat) (X : Nat → Bool) : Nat → Nat
  | 0 => 0
  | n + 1 => fsm g X n + (if X n then g (104 + 5 * n) else 0)
def sumN (f : Nat → Nat) : Nat → Nat
  | 0 => 0
  | n + 1 => sumN f n + f n
theorem sumN_add {f f' : Nat → Nat} : ∀ n, sumN (fun v => f v + f' v) n = sumN f n + sumN f' n := by
  intro n
  induction n with
  | zero => rfl
  | succ n ih =>
    show sumN (fun v => f v + f' v) n + (f n + f' n) = sumN f n + f n + (sumN f' n + f' n)
    rw [ih]
    omega
theorem sumN_le {f f' : Nat → Nat} (h : ∀ v, f v ≤ f' v) : ∀ n, sumN f n ≤ sumN f' n := by
  intro n
  induction n with
  | zero => exact Nat.le_refl _
  | succ n ih =>
    have := h n
    show sumN f n + f n ≤ sumN f' n + f' n
    omega
theorem sumN_ind {F : Nat} : ∀ n, sumN (fun v => if v < F then 1 else 0) n = min F n := by
  intro n
  induction n with
  | zero => exact (Nat.min_zero F).symm
  | succ n ih =>
    show sumN (fun v => if v < F then 1 else 0) n + (if n < F then 1 else 0) = min F (n + 1)
    rw [ih]
    by_cases h : n < F
    · rw [if_p h]; omega
    · rw [if_n h]; omega
theorem sumN_zero : ∀ n, sumN (fun _ => 0) n = 0 := by
  intro n
  induction n with
  | zero => rfl
  | succ n ih => exact ih
theorem fsm_swap (hw : WF D g) : ∀ n, n ≤ g 3 → fsm g A n = sumN (fun v => cntN (fun i => A i && decide (v < g (104 + 5 * i))) n) 50 := by
  intro n
  induction n with
  | zero => intro _; exact (sumN_zero 50).symm
  | succ n ih =>
    intro hn
    have hf := (hw.br (show n < g 3 by omega)).2.2.2.2.2.1
    show fsm g A n + (if A n then g (104 + 5 * n) else 0) = sumN (fun v => cntN (fun i => A i && decide (v < g (104 + 5 * i))) n + (if A n && decide (v < g (104 + 5 * n)) then 1 else 0)) 50
    rw [sumN_add, ← ih (by omega)]
    cases hA : A n with
    | false =>
      show fsm g A n + 0 = fsm g A n + sumN (fun _ => 0) 50
      rw [sumN_zero]
    | true =>
      have e : (fun v => if (true && decide (v < g (104 + 5 * n))) = true then 1 else 0) = (fun v => if v < g (104 + 5 * n) then 1 else 0) := by
        funext v
        by_cases q : v < g (104 + 5 * n)
        · rw [decide_eq_true q, if_p q]; rfl
        · rw [decide_eq_false q, if_n q]; rfl
      rw [e, sumN_ind, if_p rfl]
      omega
theorem greedy_best {T X : Nat → Bool} (hw : WF D g) (hT : psX g T) (hX : psX g X) (hg : ∀ b, b < g 3 → T b = false → ¬ psX g (fun i => (T i && decide (K i < K b)) || i == b)) (hK : ∀ i b, i < g 3 → b < g 3 → K i < K b → g (104 + 5 * b) ≤ g (104 + 5 * i)) : fsm g X (g 3) ≤ fsm g T (g 3) := by
  rw [fsm_swap hw (g 3) (Nat.le_refl _), fsm_swap hw (g 3) (Nat.le_refl _)]
  refine sumN_le (fun v => ?_) 50
  apply Classical.byContradiction
  intro hn
  obtain ⟨b, b1, b2, b3, b4⟩ := augm (A := fun i => T i && decide (v < g (104 + 5 * i))) (B := fun i => X i && decide (v < g (104 + 5 * i))) hw (psX_mono (fun i _ h => (Bool.and_eq_true _ _ ▸ h).1) hT) (psX_mono (fun i _ h => (Bool.and_eq_true _ _ ▸ h).1) hX) (by omega)
  rw [Bool.and_eq_true, decide_eq_true_iff] at b2
  have hTb : T b = false := by
    cases h : T b with
    | false => rfl
    | true =>
      rw [h, decide_eq_true b2.2] at b3
      cases b3
  refine hg b b1 hTb (psX_mono (fun i hi h => ?_) b4)
  rw [Bool.or_eq_true, Bool.and_eq_true, decide_eq_true_iff] at h
  rw [Bool.or_eq_true, Bool.and_eq_true, decide_eq_true_iff]
  rcases h with ⟨h1, h2⟩ | h
  · exact Or.inl ⟨h1, by have := hK i b hi b1 h2; omega⟩
  · exact Or.inr h
end RK
