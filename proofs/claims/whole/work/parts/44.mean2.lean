/-! 44: the class's groups: what they say of explanations -/
section MEAN2
variable {D : Nat} {d d1 : Dt} {g l s c : Nat → Nat} {m : Int32} {i n r x y a : Nat} {S : Nat → Prop}
def admK (g : Nat → Nat) (a i : Nat) : Bool := g (14 + 11 * i) == 0 || (g (14 + 11 * i) == 1) == a.testBit i
theorem adm_sw {w : Bool} (ha : g (14 + 11 * i) ≤ 2) (hs : s i ≤ 1) (e : a.testBit i = (w ^^ (s i == 1))) : admK g a i = true ↔ (sw g s i = 1 → w = true) ∧ (sw g s i = 2 → w = false) := by
  unfold admK sw
  rw [e]
  rcases (by omega : g (14 + 11 * i) = 0 ∨ g (14 + 11 * i) = 1 ∨ g (14 + 11 * i) = 2) with h | h | h <;> rw [h] <;> rcases (by omega : s i = 0 ∨ s i = 1) with h2 | h2 <;> rw [h2] <;> cases w <;> decide
theorem cm_iff {v : Nat} : cm g l s v r n = true ↔ ∃ i, i < n ∧ l i = r ∧ sw g s i = v := by
  unfold cm
  rw [anyN_iff]
  refine ⟨fun ⟨k, h1, h2⟩ => ⟨k, h1, ?_⟩, fun ⟨k, h1, h2, h3⟩ => ⟨k, h1, ?_⟩⟩
  · rw [Bool.and_eq_true, beq_iff_eq, beq_iff_eq] at h2
    exact h2
  · rw [Bool.and_eq_true, beq_iff_eq, beq_iff_eq]
    exact ⟨h2, h3⟩
/-- assignment a explains the group of leader r -/
def exR (g l : Nat → Nat) (S : Nat → Prop) (r a : Nat) : Prop := (∀ q, S q → l (g (151 + 3 * q)) = r → tr g a q = true) ∧ ∀ i, i < g 0 → l i = r → admK g a i = true
/-- leader r may be w -/
def may (g l s c : Nat → Nat) (r : Nat) (w : Bool) : Prop := c r = 0 ∧ (cm g l s 1 r (g 0) = true → w = true) ∧ (cm g l s 2 r (g 0) = true → w = false)
theorem exR_iff (hw : WG g) (hG : GI g l s c S) (hr : r < g 0) (hlr : l r = r) : exR g l S r a ↔ may g l s c r (a.testBit r) ∧ ∀ i, i < g 0 → l i = r → a.testBit i = (a.testBit r ^^ (s i == 1)) := by
  have C := hG.2.2.1 r hr hlr a
  have hA := hG.1
  refine ⟨fun ⟨h1, h2⟩ => ?_, fun ⟨⟨h1, h2, h3⟩, h4⟩ => ⟨C.mpr ⟨h1, h4⟩, fun i hi e => ?_⟩⟩
  · obtain ⟨c1, c2⟩ := C.mp h1
    refine ⟨⟨c1, fun q => ?_, fun q => ?_⟩, c2⟩
    · obtain ⟨i, hi, e, hsw⟩ := cm_iff.mp q
      exact ((adm_sw (hw.adm hi) (hA i hi).2.2.2.1 (c2 i hi e)).mp (h2 i hi e)).1 hsw
    · obtain ⟨i, hi, e, hsw⟩ := cm_iff.mp q
      exact ((adm_sw (hw.adm hi) (hA i hi).2.2.2.1 (c2 i hi e)).mp (h2 i hi e)).2 hsw
  · exact (adm_sw (hw.adm hi) (hA i hi).2.2.2.1 (h4 i hi e)).mpr ⟨fun q => h2 (cm_iff.mpr ⟨i, hi, e, q⟩), fun q => h3 (cm_iff.mpr ⟨i, hi, e, q⟩)⟩
/-- an assignment from the leaders' values -/
def asg (g l s : Nat → Nat) (w : Nat → Bool) : Nat := mkB (fun i => w (l i) ^^ (s i == 1)) (g 0)
theorem asg_lt {w : Nat → Bool} : asg g l s w < 2 ^ g 0 := mkB_lt
theorem asg_at {w : Nat → Bool} (hi : i < g 0) : (asg g l s w).testBit i = (w (l i) ^^ (s i == 1)) := mkB_at hi
theorem asg_lead {w : Nat → Bool} (hG : GI g l s c S) (hr : r < g 0) (hlr : l r = r) : (asg g l s w).testBit r = w r := by
  have h := (hG.1 r hr).2.2.1
  rw [hlr] at h
  rw [asg_at hr, hlr, h]
  exact Bool.xor_false _
theorem asg_ex {w : Nat → Bool} (hw : WG g) (hG : GI g l s c S) (hr : r < g 0) (hlr : l r = r) (h : may g l s c r (w r)) : exR g l S r (asg g l s w) := by
  rw [exR_iff hw hG hr hlr, asg_lead hG hr hlr]
  exact ⟨h, fun i hi e => by rw [asg_at hi, e]⟩
theorem sG_first (hw : WG g) (hx : x < 8) {k : Nat} (hk : k < g 4) (h : sG g x (g (152 + 3 * k)) = true) : sG g x (g (151 + 3 * k)) = true := by
  have hc := grp_clo hw hx k hk (fun q => by
    have : (grp g x &&& tm g k).testBit (g (152 + 3 * k)) = false := by rw [q, Nat.zero_testBit]
    rw [Nat.testBit_and, show (grp g x).testBit (g (152 + 3 * k)) = true from h] at this
    unfold tm at this
    rw [Nat.testBit_or, Nat.testBit_two_pow_self, Bool.or_true, Bool.and_true] at this
    cases this)
  show (grp g x).testBit (g (151 + 3 * k)) = true
  rw [← hc, Nat.testBit_or]
  unfold tm
  rw [Nat.testBit_or, Nat.testBit_two_pow_self, Bool.true_or, Bool.or_true]
theorem sub_bits {p q : Nat} (h : ∀ i, p.testBit i = true → q.testBit i = true) : sub p q := by
  unfold sub
  apply Nat.eq_of_testBit_eq
  intro i
  rw [Nat.testBit_or]
  cases e : p.testBit i with
  | false => exact Bool.false_or _
  | true => rw [h i e]; rfl
/-- the group of x: the lanterns with its leader -/
theorem sG_iff (hw : WG g) (hS : ∀ q, S q ↔ q < g 4) (hG : GI g l s c S) (hx : x < g 0) (hi : i < g 0) : sG g x i = true ↔ l i = l x := by
  have h8 := hw.nl
  obtain ⟨A, B, C, Dd⟩ := hG
  refine ⟨fun h => ?_, fun h => ?_⟩
  · have hz : clo g (mkB (fun j => l j == l x) (g 0)) := by
      intro k hk hm
      have w := hw.2.2.2.2 k hk
      have e := B k ((hS k).mpr hk)
      have hz1 : (mkB (fun j => l j == l x) (g 0)).testBit (g (151 + 3 * k)) = (l (g (151 + 3 * k)) == l x) := mkB_at w.1
      have hz2 : (mkB (fun j => l j == l x) (g 0)).testBit (g (152 + 3 * k)) = (l (g (151 + 3 * k)) == l x) := by rw [mkB_at w.2.1, e]
      have hin : l (g (151 + 3 * k)) = l x := by
        apply Classical.byContradiction
        intro hn
        apply hm
        apply Nat.eq_of_testBit_eq
        intro j
        rw [beq_eq_false_iff_ne.mpr hn] at hz1 hz2
        rw [Nat.testBit_and, Nat.zero_testBit]
        unfold tm
        rw [Nat.testBit_or, Nat.testBit_two_pow, Nat.testBit_two_pow]
        by_cases q1 : g (151 + 3 * k) = j
        · rw [← q1, hz1, Bool.false_and]
        · by_cases q2 : g (152 + 3 * k) = j
          · rw [← q2, hz2, Bool.false_and]
          · rw [decide_eq_false q1, decide_eq_false q2, Bool.or_false, Bool.and_false]
      rw [hin, beq_self_eq_true] at hz1 hz2
      apply Nat.eq_of_testBit_eq
      intro j
      rw [Nat.testBit_or]
      unfold tm
      rw [Nat.testBit_or, Nat.testBit_two_pow, Nat.testBit_two_pow]
      by_cases q1 : g (151 + 3 * k) = j
      · rw [← q1, hz1]; rfl
      · by_cases q2 : g (152 + 3 * k) = j
        · rw [← q2, hz2]; rfl
        · rw [decide_eq_false q1, decide_eq_false q2, Bool.or_false, Bool.or_false]
    have hs : sub (2 ^ x) (mkB (fun j => l j == l x) (g 0)) := sub_bits (fun j hj => by
      rw [Nat.testBit_two_pow] at hj
      have hj2 := of_decide_eq_true hj
      rw [← hj2, mkB_at hx, beq_self_eq_true])
    have hm : sub (grp g x) (mkB (fun j => l j == l x) (g 0)) := itC_min hz hs 8
    have h2 : (mkB (fun j => l j == l x) (g 0)).testBit i = true := by
      rw [← hm, Nat.testBit_or, show (grp g x).testBit i = true from h, Bool.true_or]
    rw [mkB_at hi] at h2
    exact beq_iff_eq.mp h2
  · exact Dd (fun j => sG g x j = true) (fun q hq => ⟨sG_second hw (by omega) ((hS q).mp hq), sG_first hw (by omega) ((hS q).mp hq)⟩) x i hx hi h.symm (grp_bit hw (by omega))
theorem cntF_z {s : Nat → Bool} : ∀ n, cntF g s a n = 0 ↔ ∀ k, k < n → s (g (151 + 3 * k)) = true → tr g a k = true := by
  intro n
  induction n with
  | zero => exact ⟨fun _ k hk => absurd hk (Nat.not_lt_zero k), fun _ => rfl⟩
  | succ n ih =>
    show cntF g s a n + (if s (g (151 + 3 * n)) && !tr g a n then 1 else 0) = 0 ↔ _
    refine ⟨fun h k hk hs => ?_, fun h => ?_⟩
    · rcases (by omega : k < n ∨ k = n) with q | rfl
      · exact ih.mp (by omega) k q hs
      · rw [hs] at h
        cases e : tr g a k with
        | true => rfl
        | false => rw [e, if_p (show (true && !false) = true from rfl)] at h; omega
    · have h1 := ih.mpr (fun k hk => h k (by omega))
      rw [h1]
      cases e : s (g (151 + 3 * n)) with
      | false => rfl
      | true => rw [h n (by omega) e]; rfl
theorem gud_iff (hw : WG g) (hS : ∀ q, S q ↔ q < g 4) (hG : GI g l s c S) (hx : x < g 0) : gud g x a = true ↔ exR g l S (l x) a := by
  unfold gud
  rw [Bool.and_eq_true, admB_iff, decide_eq_true_iff, cntF_z]
  refine ⟨fun ⟨h1, h2⟩ => ⟨fun q hq e => ?_, fun i hi e => ?_⟩, fun ⟨h1, h2⟩ => ⟨fun i hi => ?_, fun k hk e => ?_⟩⟩
  · exact h2 q ((hS q).mp hq) ((sG_iff hw hS hG hx (hw.2.2.2.2 q ((hS q).mp hq)).1).mpr e)
  · have := h1 i hi
    rwa [(sG_iff hw hS hG hx hi).mpr e, Bool.not_true, Bool.false_or] at this
  · cases e : sG g x i with
    | false => rfl
    | true => rw [Bool.not_true, Bool.false_or]; exact h2 i hi ((sG_iff hw hS hG hx hi).mp e)
  · exact h1 k ((hS k).mpr hk) ((sG_iff hw hS hG hx (hw.2.2.2.2 k hk).1).mp e)
theorem anyN_dec {p : Nat → Bool} {P : Prop} (h : (∃ k, k < n ∧ p k = true) ↔ P) : anyN p n = true ↔ P := (anyN_iff n).trans h
theorem rv_iff {v : Bool} (hw : WG g) (hS : ∀ q, S q ↔ q < g 4) (hG : GI g l s c S) (hx : x < g 0) : anyN (fun a => gud g x a && (a.testBit x == v)) (2 ^ g 0) = true ↔ may g l s c (l x) (v ^^ (s x == 1)) := by
  obtain ⟨A1, A2, A3, A4, A5⟩ := hG.1 x hx
  refine anyN_dec ⟨fun ⟨k, hk, h⟩ => ?_, fun h => ⟨asg g l s (fun _ => v ^^ (s x == 1)), asg_lt, ?_⟩⟩
  · rw [Bool.and_eq_true, beq_iff_eq, gud_iff hw hS hG hx, exR_iff hw hG A1 A2] at h
    obtain ⟨⟨h1, h2⟩, h3⟩ := h
    have h4 := h2 x hx rfl
    rw [h3] at h4
    have h5 : k.testBit (l x) = (v ^^ (s x == 1)) := by
      rw [h4]
      cases k.testBit (l x) <;> cases (s x == 1) <;> rfl
    rw [← h5]
    exact h1
  · rw [Bool.and_eq_true, beq_iff_eq, gud_iff hw hS hG hx]
    refine ⟨asg_ex hw hG A1 A2 h, ?_⟩
    rw [asg_at hx]
    cases v <;> cases (s x == 1) <;> rfl
end MEAN2
