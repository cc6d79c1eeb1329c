/-! 41: the class's groups: what they mean -/
section GI
variable {D : Nat} {g l s c : Nat → Nat} {S S' : Nat → Prop} {i j q t N : Nat}
/-- what leaders, sides and clashes mean, after the statements S -/
def GI (g : Nat → Nat) (l s c : Nat → Nat) (S : Nat → Prop) : Prop :=
  (∀ i, i < g 0 → l i < g 0 ∧ l (l i) = l i ∧ s (l i) = 0 ∧ s i ≤ 1 ∧ c i ≤ 1) ∧
  (∀ q, S q → l (g (151 + 3 * q)) = l (g (152 + 3 * q))) ∧
  (∀ r, r < g 0 → l r = r → ∀ a : Nat, (∀ q, S q → l (g (151 + 3 * q)) = r → tr g a q = true) ↔ (c r = 0 ∧ ∀ i, i < g 0 → l i = r → a.testBit i = (a.testBit r ^^ (s i == 1)))) ∧
  (∀ z : Nat → Prop, (∀ q, S q → (z (g (151 + 3 * q)) ↔ z (g (152 + 3 * q)))) → ∀ i j, i < g 0 → j < g 0 → l i = l j → z i → z j)
theorem t5_b {a b t : Nat} (ha : a ≤ 1) (hb : b ≤ 1) (ht : t ≤ 1) : (((a ^^^ b) ^^^ t) == 1) = (((a == 1) ^^ (b == 1)) ^^ (t == 1)) := by
  rcases (by omega : a = 0 ∨ a = 1) with rfl | rfl <;> rcases (by omega : b = 0 ∨ b = 1) with rfl | rfl <;> rcases (by omega : t = 0 ∨ t = 1) with rfl | rfl <;> rfl
theorem x_b {a b : Nat} (ha : a ≤ 1) (hb : b ≤ 1) : ((a ^^^ b) == 1) = ((a == 1) ^^ (b == 1)) := by
  rcases (by omega : a = 0 ∨ a = 1) with rfl | rfl <;> rcases (by omega : b = 0 ∨ b = 1) with rfl | rfl <;> rfl
/-- a statement says: the two differ by t -/
theorem tr_eq {a : Nat} (ht : t = (if g (153 + 3 * q) = 0 then 1 else 0)) (h1 : g (153 + 3 * q) ≤ 1) : (tr g a q = true) ↔ (a.testBit (g (151 + 3 * q)) = (a.testBit (g (152 + 3 * q)) ^^ (t == 1))) := by
  unfold tr
  rw [ht]
  rcases (by omega : g (153 + 3 * q) = 0 ∨ g (153 + 3 * q) = 1) with h | h <;> rw [h] <;> cases a.testBit (g (151 + 3 * q)) <;> cases a.testBit (g (152 + 3 * q)) <;> decide
theorem GI_join (hw : WG g) (h : GI g l s c S) (hq : q < g 4) (ht : t = (if g (153 + 3 * q) = 0 then 1 else 0)) (hS : ∀ k, S' k ↔ S k ∨ k = q) : GI g (jl l (g (151 + 3 * q)) (g (152 + 3 * q))) (js l s (g (151 + 3 * q)) (g (152 + 3 * q)) t) (jc l s c (g (151 + 3 * q)) (g (152 + 3 * q)) t) S' := by
  obtain ⟨w1, w2, w3, w4⟩ := hw.2.2.2.2 q hq
  have hT := fun a : Nat => tr_eq (a := a) ht w4
  have ht1 : t ≤ 1 := by
    rw [ht]
    by_cases e : g (153 + 3 * q) = 0
    · rw [if_p e]; exact Nat.le_refl 1
    · rw [if_n e]; exact Nat.zero_le 1
  generalize hi0 : g (151 + 3 * q) = i at *
  generalize hj0 : g (152 + 3 * q) = j at *
  obtain ⟨A, B, C, Dd⟩ := h
  obtain ⟨i1, i2, i3, i4, i5⟩ := A i w1
  obtain ⟨j1, j2, j3, j4, j5⟩ := A j w2
  have h5 : t5 s i j t ≤ 1 := xor1 (xor1 i4 j4) ht1
  have h5b : (t5 s i j t == 1) = (((s i == 1) ^^ (s j == 1)) ^^ (t == 1)) := t5_b i4 j4 ht1
  have D' : ∀ z : Nat → Prop, (∀ k, S' k → (z (g (151 + 3 * k)) ↔ z (g (152 + 3 * k)))) → ∀ k m, k < g 0 → m < g 0 → jl l i j k = jl l i j m → z k → z m := by
    intro z hz k m hk hm e hzk
    have hz0 : ∀ k, S k → (z (g (151 + 3 * k)) ↔ z (g (152 + 3 * k))) := fun k hk => hz k ((hS k).mpr (Or.inl hk))
    have hij : z i ↔ z j := by have := hz q ((hS q).mpr (Or.inr rfl)); rwa [hi0, hj0] at this
    have dz := Dd z hz0
    unfold jl at e
    by_cases e1 : l k = l j
    · rw [if_p e1] at e
      by_cases e2 : l m = l j
      · exact dz k m hk hm (e1.trans e2.symm) hzk
      · rw [if_n e2] at e
        exact dz i m w1 hm e (hij.mpr (dz k j hk w2 e1 hzk))
    · rw [if_n e1] at e
      by_cases e2 : l m = l j
      · rw [if_p e2] at e
        exact dz j m w2 hm e2.symm (hij.mp (dz k i hk w1 e hzk))
      · rw [if_n e2] at e
        exact dz k m hk hm e hzk
  have B' : ∀ k, S' k → jl l i j (g (151 + 3 * k)) = jl l i j (g (152 + 3 * k)) := by
    intro k hk
    rcases (hS k).mp hk with hk | rfl
    · unfold jl
      rw [B k hk]
    · rw [hi0, hj0]
      unfold jl
      rw [if_p (rfl : l j = l j)]
      by_cases e : l i = l j
      · rw [if_p e]
      · rw [if_n e]
  by_cases hl : l i = l j
  · have eB : ∀ a : Nat, c (l i) = 0 ∧ (∀ m, m < g 0 → l m = l i → a.testBit m = (a.testBit (l i) ^^ (s m == 1))) → ((tr g a q = true) ↔ t5 s i j t = 0) := by
      intro a hE
      rw [hT a, hE.2 i w1 rfl, hE.2 j w2 hl.symm]
      have : t5 s i j t = 0 ↔ (t5 s i j t == 1) = false := by
        rcases (by omega : t5 s i j t = 0 ∨ t5 s i j t = 1) with e | e <;> rw [e] <;> decide
      rw [this, h5b]
      cases a.testBit (l i) <;> cases (s i == 1) <;> cases (s j == 1) <;> cases (t == 1) <;> decide
    refine ⟨fun k hk => ?_, B', fun r hr hlr a => ?_, D'⟩
    · rw [jl_same hl, js_same hl]
      obtain ⟨a1, a2, a3, a4, a5⟩ := A k hk
      refine ⟨a1, a2, a3, a4, ?_⟩
      unfold jc
      by_cases e : k = l i
      · rw [if_p e, if_p hl]
        by_cases e2 : c (l i) = 0
        · rw [if_p e2]; exact h5
        · rw [if_n e2]; exact Nat.le_refl 1
      · rw [if_n e]; exact a5
    · rw [jl_same hl] at hlr ⊢
      rw [js_same hl]
      have Cr := C r hr hlr a
      by_cases e : r = l i
      · subst e
        have ec : jc l s c i j t (l i) = 0 ↔ c (l i) = 0 ∧ t5 s i j t = 0 := by
          unfold jc
          rw [if_p rfl, if_p hl]
          by_cases e2 : c (l i) = 0
          · rw [if_p e2]
            exact ⟨fun x => ⟨e2, x⟩, fun x => x.2⟩
          · rw [if_n e2]
            exact ⟨fun x => absurd x (by decide), fun x => absurd x.1 e2⟩
        rw [ec]
        refine ⟨fun hh => ?_, fun ⟨⟨x1, x2⟩, x3⟩ k hk hk2 => ?_⟩
        · have y := Cr.mp (fun k hk hk2 => hh k ((hS k).mpr (Or.inl hk)) hk2)
          exact ⟨⟨y.1, (eB a y).mp (hh q ((hS q).mpr (Or.inr rfl)) (by rw [hi0]))⟩, y.2⟩
        · rcases (hS k).mp hk with hk | rfl
          · exact Cr.mpr ⟨x1, x3⟩ k hk hk2
          · exact (eB a ⟨x1, x3⟩).mpr x2
      · have ec : jc l s c i j t r = c r := by unfold jc; rw [if_n e]
        rw [ec, ← Cr]
        refine ⟨fun hh k hk hk2 => hh k ((hS k).mpr (Or.inl hk)) hk2, fun hh k hk hk2 => ?_⟩
        rcases (hS k).mp hk with hk | rfl
        · exact hh k hk hk2
        · rw [hi0] at hk2
          exact absurd hk2.symm e
  · have ni : l (l i) ≠ l j := by rw [i2]; exact hl
    have jf : ∀ k, jl l i j k = (if l k = l j then l i else l k) := fun _ => rfl
    have sf : ∀ k, js l s i j t k = (if l k = l j then s k ^^^ t5 s i j t else s k) := fun k => by
      unfold js
      rw [if_n hl]
    refine ⟨fun k hk => ?_, B', fun r hr hlr a => ?_, D'⟩
    · obtain ⟨a1, a2, a3, a4, a5⟩ := A k hk
      refine ⟨?_, ?_, ?_, ?_, ?_⟩
      · rw [jf]
        by_cases e : l k = l j
        · rw [if_p e]; exact i1
        · rw [if_n e]; exact a1
      · rw [jf k]
        by_cases e : l k = l j
        · rw [if_p e, jf, if_n ni, i2]
        · rw [if_n e, jf, a2, if_n e]
      · rw [jf k]
        by_cases e : l k = l j
        · rw [if_p e, sf, if_n ni, i3]
        · rw [if_n e, sf, a2, if_n e, a3]
      · rw [sf]
        by_cases e : l k = l j
        · rw [if_p e]; exact xor1 a4 h5
        · rw [if_n e]; exact a4
      · unfold jc
        by_cases e : k = l i
        · rw [if_p e, if_n hl]
          by_cases e2 : c (l i) = 0 ∧ c (l j) = 0
          · rw [if_p e2]; exact Nat.zero_le 1
          · rw [if_n e2]; exact Nat.le_refl 1
        · rw [if_n e]; exact a5
    · have lr : l r = r := by
        rw [jf] at hlr
        by_cases e : l r = l j
        · rw [if_p e] at hlr
          rw [← hlr, i2] at e
          exact absurd e hl
        · rw [if_n e] at hlr
          exact hlr
      have rj : r ≠ l j := fun e => by
        rw [jf, if_p (by rw [e, j2])] at hlr
        exact hl (hlr.trans e)
      have bs : ∀ m, m < g 0 → ((s m ^^^ t5 s i j t) == 1) = ((s m == 1) ^^ (((s i == 1) ^^ (s j == 1)) ^^ (t == 1))) := fun m hm => by rw [x_b (A m hm).2.2.2.1 h5, h5b]
      by_cases e : r = l i
      · subst e
        have C1 := C (l i) i1 i2 a
        have C2 := C (l j) j1 j2 a
        have ec : jc l s c i j t (l i) = 0 ↔ c (l i) = 0 ∧ c (l j) = 0 := by
          unfold jc
          rw [if_p rfl, if_n hl]
          by_cases e2 : c (l i) = 0 ∧ c (l j) = 0
          · rw [if_p e2]; exact ⟨fun _ => e2, fun _ => rfl⟩
          · rw [if_n e2]; exact ⟨fun x => absurd x (by decide), fun x => absurd x e2⟩
        rw [ec]
        refine ⟨fun hh => ?_, fun ⟨⟨c1, c2⟩, x3⟩ k hk hk2 => ?_⟩
        · have y1 := C1.mp (fun k hk hk2 => hh k ((hS k).mpr (Or.inl hk)) (by rw [jf, hk2, if_n hl]))
          have y2 := C2.mp (fun k hk hk2 => hh k ((hS k).mpr (Or.inl hk)) (by rw [jf, hk2, if_p rfl]))
          have tq := (hT a).mp (hh q ((hS q).mpr (Or.inr rfl)) (by rw [hi0, jf, if_n hl]))
          rw [y1.2 i w1 rfl, y2.2 j w2 rfl] at tq
          refine ⟨⟨y1.1, y2.1⟩, fun m hm hlm => ?_⟩
          rw [jf] at hlm
          rw [sf]
          by_cases e2 : l m = l j
          · rw [if_p e2, y2.2 m hm e2, bs m hm]
            revert tq
            generalize a.testBit (l i) = z1
            generalize a.testBit (l j) = z2
            generalize (s i == 1) = z3
            generalize (s j == 1) = z4
            generalize (t == 1) = z5
            generalize (s m == 1) = z6
            revert z1 z2 z3 z4 z5 z6
            decide
          · rw [if_n e2] at hlm ⊢
            exact y1.2 m hm hlm
        · have E1 : ∀ m, m < g 0 → l m = l i → a.testBit m = (a.testBit (l i) ^^ (s m == 1)) := fun m hm e2 => by
            have := x3 m hm (by rw [jf, e2, if_n hl])
            rwa [sf, if_n (by rw [e2]; exact hl)] at this
          have Ej := x3 (l j) j1 (by rw [jf, j2, if_p rfl])
          rw [sf, if_p j2, bs (l j) j1, j3] at Ej
          have E2 : ∀ m, m < g 0 → l m = l j → a.testBit m = (a.testBit (l j) ^^ (s m == 1)) := fun m hm e2 => by
            have := x3 m hm (by rw [jf, e2, if_p rfl])
            rw [sf, if_p e2, bs m hm] at this
            rw [this, Ej]
            generalize a.testBit (l i) = z1
            generalize (s i == 1) = z3
            generalize (s j == 1) = z4
            generalize (t == 1) = z5
            generalize (s m == 1) = z6
            revert z1 z3 z4 z5 z6
            decide
          rcases (hS k).mp hk with hk | rfl
          · rw [jf] at hk2
            by_cases e2 : l (g (151 + 3 * k)) = l j
            · exact C2.mpr ⟨c2, E2⟩ k hk e2
            · rw [if_n e2] at hk2
              exact C1.mpr ⟨c1, E1⟩ k hk hk2
          · rw [hT a, E1 i w1 rfl, E2 j w2 rfl, Ej]
            generalize a.testBit (l i) = z1
            generalize (s i == 1) = z3
            generalize (s j == 1) = z4
            generalize (t == 1) = z5
            revert z1 z3 z4 z5
            decide
      · have ec : jc l s c i j t r = c r := by unfold jc; rw [if_n e]
        have jr : ∀ m, jl l i j m = r ↔ l m = r := fun m => by
          rw [jf]
          by_cases e2 : l m = l j
          · rw [if_p e2, e2]
            exact ⟨fun x => absurd x.symm e, fun x => absurd x.symm rj⟩
          · rw [if_n e2]
        have Cr := C r hr lr a
        rw [ec]
        refine ⟨fun hh => ?_, fun ⟨x1, x2⟩ k hk hk2 => ?_⟩
        · have y := Cr.mp (fun k hk hk2 => hh k ((hS k).mpr (Or.inl hk)) ((jr _).mpr hk2))
          refine ⟨y.1, fun m hm hlm => ?_⟩
          have hm2 := (jr m).mp hlm
          rw [sf, if_n (by rw [hm2]; exact rj)]
          exact y.2 m hm hm2
        · have hk3 := (jr _).mp hk2
          rcases (hS k).mp hk with hk | rfl
          · refine Cr.mpr ⟨x1, fun m hm hm2 => ?_⟩ k hk hk3
            have := x2 m hm ((jr m).mpr hm2)
            rwa [sf, if_n (by rw [hm2]; exact rj)] at this
          · rw [hi0] at hk3
            exact absurd hk3.symm e
end GI
