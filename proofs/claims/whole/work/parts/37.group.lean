/-! 37: the group of a lantern: both sides -/
section GROUP
variable {D D' : Nat} {d d1 d2 : Dt} {g g' : Nat → Nat} {x c c' z n k : Nat}
def tm (g : Nat → Nat) (k : Nat) : Nat := 2 ^ g (151 + 3 * k) ||| 2 ^ g (152 + 3 * k)
def psM (g : Nat → Nat) (old acc : Nat) : Nat → Nat
  | 0 => acc
  | n + 1 => if old &&& tm g n = 0 then psM g old acc n else psM g old acc n ||| tm g n
def psC (g : Nat → Nat) (c : Nat) : Nat → Nat
  | 0 => c
  | n + 1 => if psC g c n &&& tm g n = 0 then psC g c n else psC g c n ||| tm g n
def clo (g : Nat → Nat) (c : Nat) : Prop := ∀ k, k < g 4 → c &&& tm g k ≠ 0 → c ||| tm g k = c
def sub (a b : Nat) : Prop := a ||| b = b
theorem sub_refl : sub c c := Nat.or_self c
theorem sub_trans (h1 : sub c c') (h2 : sub c' z) : sub c z := by
  unfold sub at *
  rw [← h2, ← Nat.or_assoc, h1]
theorem sub_anti (h1 : sub c c') (h2 : sub c' c) : c = c' := by
  unfold sub at *
  rw [← h2, Nat.or_comm, h1]
theorem sub_or : sub c (c ||| z) := by
  unfold sub
  rw [← Nat.or_assoc, Nat.or_self]
theorem or_sub (h1 : sub c z) (h2 : sub c' z) : sub (c ||| c') z := by
  unfold sub at *
  rw [Nat.or_assoc, h2, h1]
theorem sub_le (h : sub c c') : c ≤ c' := by
  unfold sub at h
  rw [← h]
  exact Nat.left_le_or
theorem meet_sub (h : sub c z) (hm : c &&& k ≠ 0) : z &&& k ≠ 0 := by
  intro q
  apply hm
  have h1 : (c &&& k) ||| (z &&& k) = z &&& k := by rw [← Nat.and_or_distrib_right, h]
  have h2 : c &&& k ≤ (c &&& k) ||| (z &&& k) := Nat.left_le_or
  rw [h1, q] at h2
  omega
theorem psC_sub : ∀ n, sub c (psC g c n) := by
  intro n
  induction n with
  | zero => exact sub_refl
  | succ n ih =>
    show sub c (if psC g c n &&& tm g n = 0 then psC g c n else psC g c n ||| tm g n)
    by_cases h : psC g c n &&& tm g n = 0
    · rw [if_p h]; exact ih
    · rw [if_n h]; exact sub_trans ih sub_or
theorem psC_min (hz : clo g z) (hc : sub c z) : ∀ n, n ≤ g 4 → sub (psC g c n) z := by
  intro n
  induction n with
  | zero => intro _; exact hc
  | succ n ih =>
    intro hn
    have i := ih (by omega)
    show sub (if psC g c n &&& tm g n = 0 then psC g c n else psC g c n ||| tm g n) z
    by_cases h : psC g c n &&& tm g n = 0
    · rw [if_p h]; exact i
    · rw [if_n h]
      refine or_sub i ?_
      unfold sub
      rw [Nat.or_comm]
      exact hz n (by omega) (meet_sub i h)
theorem psM_sub {old : Nat} : ∀ n, sub c (psM g old c n) := by
  intro n
  induction n with
  | zero => exact sub_refl
  | succ n ih =>
    show sub c (if old &&& tm g n = 0 then psM g old c n else psM g old c n ||| tm g n)
    by_cases h : old &&& tm g n = 0
    · rw [if_p h]; exact ih
    · rw [if_n h]; exact sub_trans ih sub_or
theorem psM_step {old : Nat} {m : Nat} : sub (psM g old c m) (psM g old c (m + 1)) := by
  show sub _ (if old &&& tm g m = 0 then psM g old c m else psM g old c m ||| tm g m)
  by_cases h : old &&& tm g m = 0
  · rw [if_p h]; exact sub_refl
  · rw [if_n h]; exact sub_or
theorem psM_mono {old : Nat} : ∀ n m, n ≤ m → sub (psM g old c n) (psM g old c m) := by
  intro n m
  induction m with
  | zero => intro h; rw [show n = 0 by omega]; exact sub_refl
  | succ m ih =>
    intro h
    rcases (by omega : n = m + 1 ∨ n ≤ m) with rfl | h
    · exact sub_refl
    · exact sub_trans (ih h) psM_step
theorem psM_min (hz : clo g z) (hc : sub c z) : ∀ n, n ≤ g 4 → sub (psM g c c n) z := by
  intro n
  induction n with
  | zero => intro _; exact hc
  | succ n ih =>
    intro hn
    have i := ih (by omega)
    show sub (if c &&& tm g n = 0 then psM g c c n else psM g c c n ||| tm g n) z
    by_cases h : c &&& tm g n = 0
    · rw [if_p h]; exact i
    · rw [if_n h]
      refine or_sub i ?_
      unfold sub
      rw [Nat.or_comm]
      exact hz n (by omega) (meet_sub hc h)
theorem psM_fix (h : psM g c c (g 4) = c) : clo g c := by
  intro k hk hm
  have e : ∀ n, n ≤ g 4 → psM g c c n = c := fun n hn => by
    have t : sub (psM g c c n) (psM g c c (g 4)) := psM_mono n (g 4) hn
    rw [h] at t
    exact (sub_anti (psM_sub n) t).symm
  have e1 := e (k + 1) (by omega)
  have e2 : psM g c c (k + 1) = psM g c c k ||| tm g k := if_n hm
  rw [e2, e k (by omega)] at e1
  exact e1
theorem psC_step {m : Nat} : sub (psC g c m) (psC g c (m + 1)) := by
  show sub _ (if psC g c m &&& tm g m = 0 then psC g c m else psC g c m ||| tm g m)
  by_cases h : psC g c m &&& tm g m = 0
  · rw [if_p h]; exact sub_refl
  · rw [if_n h]; exact sub_or
theorem psC_mono : ∀ n m, n ≤ m → sub (psC g c n) (psC g c m) := by
  intro n m
  induction m with
  | zero => intro h; rw [show n = 0 by omega]; exact sub_refl
  | succ m ih =>
    intro h
    rcases (by omega : n = m + 1 ∨ n ≤ m) with rfl | h
    · exact sub_refl
    · exact sub_trans (ih h) psC_step
theorem psC_fix (h : psC g c (g 4) = c) : clo g c := by
  intro k hk hm
  have e : ∀ n, n ≤ g 4 → psC g c n = c := fun n hn => by
    have t : sub (psC g c n) (psC g c (g 4)) := psC_mono n (g 4) hn
    rw [h] at t
    exact (sub_anti (psC_sub n) t).symm
  have e1 := e (k + 1) (by omega)
  have e2 : psC g c (k + 1) = psC g c k ||| tm g k := if_n (by rw [e k (by omega)]; exact hm)
  rw [e2, e k (by omega)] at e1
  exact e1
theorem psC_clo (h : clo g c) : ∀ n, n ≤ g 4 → psC g c n = c := by
  intro n
  induction n with
  | zero => intro _; rfl
  | succ n ih =>
    intro hn
    have i := ih (by omega)
    show (if psC g c n &&& tm g n = 0 then psC g c n else psC g c n ||| tm g n) = c
    rw [i]
    by_cases q : c &&& tm g n = 0
    · rw [if_p q]
    · rw [if_n q]; exact h n (by omega) q
theorem tm_lt (hw : WG g) (hk : k < g 4) : tm g k < 2 ^ 8 := by
  have h8 := hw.nl
  obtain ⟨w1, w2, w3, w4⟩ := hw.2.2.2.2 k hk
  exact Nat.or_lt_two_pow (Nat.pow_lt_pow_right (by decide) (by omega)) (Nat.pow_lt_pow_right (by decide) (by omega))
theorem psC_lt (hw : WG g) (hc : c < 2 ^ 8) : ∀ n, n ≤ g 4 → psC g c n < 2 ^ 8 := by
  intro n
  induction n with
  | zero => intro _; exact hc
  | succ n ih =>
    intro hn
    have i := ih (by omega)
    show (if psC g c n &&& tm g n = 0 then psC g c n else psC g c n ||| tm g n) < 2 ^ 8
    by_cases q : psC g c n &&& tm g n = 0
    · rw [if_p q]; exact i
    · rw [if_n q]; exact Nat.or_lt_two_pow i (tm_lt hw (by omega))
theorem psM_lt {old : Nat} (hw : WG g) (hc : c < 2 ^ 8) : ∀ n, n ≤ g 4 → psM g old c n < 2 ^ 8 := by
  intro n
  induction n with
  | zero => intro _; exact hc
  | succ n ih =>
    intro hn
    have i := ih (by omega)
    show (if old &&& tm g n = 0 then psM g old c n else psM g old c n ||| tm g n) < 2 ^ 8
    by_cases q : old &&& tm g n = 0
    · rw [if_p q]; exact i
    · rw [if_n q]; exact Nat.or_lt_two_pow i (tm_lt hw (by omega))
/-- how many of the first n -/
def pc (c : Nat) : Nat → Nat
  | 0 => 0
  | n + 1 => pc c n + (if c.testBit n then 1 else 0)
theorem pc_le : ∀ n, pc c n ≤ n := by
  intro n
  induction n with
  | zero => exact Nat.le_refl 0
  | succ n ih =>
    show pc c n + (if c.testBit n then 1 else 0) ≤ n + 1
    cases c.testBit n
    · show pc c n + 0 ≤ n + 1; omega
    · show pc c n + 1 ≤ n + 1; omega
theorem pc_mono (h : sub c c') {i : Nat} (h1 : c'.testBit i = true) (h2 : c.testBit i = false) : ∀ n, pc c n ≤ pc c' n ∧ (i < n → pc c n < pc c' n) := by
  intro n
  induction n with
  | zero => exact ⟨Nat.le_refl 0, fun q => absurd q (Nat.not_lt_zero i)⟩
  | succ n ih =>
    show pc c n + (if c.testBit n then 1 else 0) ≤ pc c' n + (if c'.testBit n then 1 else 0) ∧ (i < n + 1 → pc c n + (if c.testBit n then 1 else 0) < pc c' n + (if c'.testBit n then 1 else 0))
    have hb : c.testBit n = true → c'.testBit n = true := fun q => by
      have : (c ||| c').testBit n = c'.testBit n := by rw [show c ||| c' = c' from h]
      rw [Nat.testBit_or, q, Bool.true_or] at this
      exact this.symm
    by_cases hi : i = n
    · subst hi
      rw [h1, h2]
      show pc c i + 0 ≤ pc c' i + 1 ∧ (i < i + 1 → pc c i + 0 < pc c' i + 1)
      exact ⟨by omega, fun _ => by omega⟩
    · cases q : c.testBit n with
      | true =>
        rw [hb q]
        show pc c n + 1 ≤ pc c' n + 1 ∧ (i < n + 1 → pc c n + 1 < pc c' n + 1)
        exact ⟨by omega, fun t => by have := ih.2 (by omega); omega⟩
      | false =>
        show pc c n + 0 ≤ pc c' n + (if c'.testBit n then 1 else 0) ∧ (i < n + 1 → pc c n + 0 < pc c' n + (if c'.testBit n then 1 else 0))
        exact ⟨by omega, fun t => by have := ih.2 (by omega); omega⟩
theorem pc_lt (h : sub c c') (hne : c ≠ c') (h8 : c' < 2 ^ 8) : pc c 8 < pc c' 8 := by
  have hb : ∀ i, c.testBit i = true → c'.testBit i = true := fun i q => by
    have : (c ||| c').testBit i = c'.testBit i := by rw [show c ||| c' = c' from h]
    rw [Nat.testBit_or, q, Bool.true_or] at this
    exact this.symm
  have hex : ∃ i, c'.testBit i = true ∧ c.testBit i = false := by
    apply Classical.byContradiction
    intro hn
    apply hne
    apply Nat.eq_of_testBit_eq
    intro i
    cases q : c.testBit i with
    | true => exact (hb i q).symm
    | false =>
      cases q2 : c'.testBit i with
      | false => rfl
      | true => exact absurd ⟨i, q2, q⟩ hn
  obtain ⟨i, h1, h2⟩ := hex
  have hi : i < 8 := by
    apply Classical.byContradiction
    intro hn
    have : c' < 2 ^ i := Nat.lt_of_lt_of_le h8 (Nat.pow_le_pow_right (by decide) (by omega))
    rw [Nat.testBit_lt_two_pow this] at h1
    cases h1
  exact (pc_mono h h1 h2 8).2 hi
def itC (g : Nat → Nat) (c : Nat) : Nat → Nat
  | 0 => c
  | n + 1 => psC g (itC g c n) (g 4)
theorem itC_lt (hw : WG g) (hc : c < 2 ^ 8) : ∀ n, itC g c n < 2 ^ 8 := by
  intro n
  induction n with
  | zero => exact hc
  | succ n ih => exact psC_lt hw ih (g 4) (Nat.le_refl _)
theorem itC_sub : ∀ n, sub c (itC g c n) := by
  intro n
  induction n with
  | zero => exact sub_refl
  | succ n ih => exact sub_trans ih (psC_sub (g 4))
theorem itC_min (hz : clo g z) (hc : sub c z) : ∀ n, sub (itC g c n) z := by
  intro n
  induction n with
  | zero => exact hc
  | succ n ih => exact psC_min hz ih (g 4) (Nat.le_refl _)
theorem itC_grow (hw : WG g) (hx : x < 8) : ∀ n, clo g (itC g (2 ^ x) n) ∨ n + 1 ≤ pc (itC g (2 ^ x) n) 8 := by
  have hc : 2 ^ x < 2 ^ 8 := Nat.pow_lt_pow_right (by decide) hx
  intro n
  induction n with
  | zero =>
    refine Or.inr ?_
    have h : ∀ x, x < 8 → 0 + 1 ≤ pc (2 ^ x) 8 := by decide
    exact h x hx
  | succ n ih =>
    rcases ih with q | q
    · refine Or.inl ?_
      show clo g (psC g (itC g (2 ^ x) n) (g 4))
      rw [psC_clo q (g 4) (Nat.le_refl _)]
      exact q
    · by_cases e : psC g (itC g (2 ^ x) n) (g 4) = itC g (2 ^ x) n
      · refine Or.inl ?_
        show clo g (psC g (itC g (2 ^ x) n) (g 4))
        rw [e]
        exact psC_fix e
      · refine Or.inr ?_
        have := pc_lt (psC_sub (g := g) (c := itC g (2 ^ x) n) (g 4)) (fun t => e t.symm) (psC_lt hw (itC_lt hw hc n) (g 4) (Nat.le_refl _))
        show n + 1 + 1 ≤ pc (psC g (itC g (2 ^ x) n) (g 4)) 8
        omega
/-- the group of a lantern -/
def grp (g : Nat → Nat) (x : Nat) : Nat := itC g (2 ^ x) 8
theorem grp_clo (hw : WG g) (hx : x < 8) : clo g (grp g x) := by
  rcases itC_grow hw hx 8 with q | q
  · exact q
  · have := pc_le (c := itC g (2 ^ x) 8) 8
    omega
theorem grp_eq (hw : WG g) (hx : x < 8) (h1 : clo g c) (h2 : sub (2 ^ x) c) (h3 : ∀ z, clo g z → sub (2 ^ x) z → sub c z) : c = grp g x :=
  sub_anti (h3 _ (grp_clo hw hx) (itC_sub 8)) (itC_min h1 h2 8)
end GROUP
