/-! 40: the class's groups: joining two lanterns -/
section JOIN
variable {d d1 d2 : Dt} {n i j t : Nat} {l s c : Nat → Nat}
def GS (d : Dt) (n : Nat) (l s c : Nat → Nat) : Prop := d 281 0 = J n ∧ n ≤ 8 ∧ ∀ i, i < n → l i < n ∧ s i ≤ 1 ∧ c i ≤ 1 ∧ d 282 i = J (l i) ∧ d 283 i = J (s i) ∧ d 284 i = J (c i)
theorem xor1 {a b : Nat} (ha : a ≤ 1) (hb : b ≤ 1) : a ^^^ b ≤ 1 := by
  rcases (by omega : a = 0 ∨ a = 1) with rfl | rfl <;> rcases (by omega : b = 0 ∨ b = 1) with rfl | rfl <;> decide
def t5 (s : Nat → Nat) (i j t : Nat) : Nat := (s i ^^^ s j) ^^^ t
def jl (l : Nat → Nat) (i j : Nat) : Nat → Nat := fun k => if l k = l j then l i else l k
def js (l s : Nat → Nat) (i j t : Nat) : Nat → Nat := fun k => if l i = l j then s k else if l k = l j then s k ^^^ t5 s i j t else s k
def jc (l s c : Nat → Nat) (i j t : Nat) : Nat → Nat := fun r => if r = l i then (if l i = l j then (if c (l i) = 0 then t5 s i j t else 1) else if c (l i) = 0 ∧ c (l j) = 0 then 0 else 1) else c r
theorem G_join104 (h : GS d n l s c) (hi : i < n) (hj : j < n) (ht : t ≤ 1) (hne : l i ≠ l j) : ok (f_G_join_104 (J (l i)) (J (l j)) (J (t5 s i j t)) (J 0) d) (fun d' => GS d' n (jl l i j) (js l s i j t) c ∧ ∀ k, k ≠ 282 → k ≠ 283 → d' k = d k) := by
  obtain ⟨h1, h2, h3⟩ := h
  have hli := (h3 i hi).1
  have hlj := (h3 j hj).1
  have ht5 : t5 s i j t ≤ 1 := xor1 (xor1 (h3 i hi).2.1 (h3 j hj).2.1) ht
  unfold f_G_join_104
  refine iter_up 0 n (fun k x => ∃ d5, x = (J k, d5) ∧ (∀ q, q < n → d5 282 q = J (if q < k then jl l i j q else l q) ∧ d5 283 q = J (if q < k then js l s i j t q else s q)) ∧ ∀ r, r ≠ 282 → r ≠ 283 → d5 r = d r) ⟨d, rfl, fun q hq => ⟨by rw [if_n (Nat.not_lt_zero q)]; exact (h3 q hq).2.2.2.1, by rw [if_n (Nat.not_lt_zero q)]; exact (h3 q hq).2.2.2.2.1⟩, fun _ _ _ => rfl⟩ (Nat.zero_le _) (by omega) ?_ ?_
  · intro k x hk hx
    obtain ⟨d5, rfl, a1, a2⟩ := hx
    have hlk := (h3 k hk).1
    have b1 : d5 282 k = J (l k) := by have := (a1 k hk).1; rwa [if_n (Nat.lt_irrefl k)] at this
    have b2 : d5 283 k = J (s k) := by have := (a1 k hk).2; rwa [if_n (Nat.lt_irrefl k)] at this
    unfold st_G_join_104
    simp only [J_lit]
    rw [a2 281 (by decide) (by decide), h1, if_n (fun q => by have := (J_le (by omega) (by omega)).mp q; omega), J_inb (by omega), gd_d (by omega), J_nat (by omega), b1]
    by_cases q : l k = l j
    · rw [if_p (by rw [q]), gd_d (by omega), ok_bnd, gd_d (by omega), gd_d (by omega), ok_bnd, ok_s, wr_k (show 283 ≠ 282 by decide), b2, J_xor, J_add]
      refine Or.inl ⟨_, rfl, _, rfl, fun r hr => ⟨?_, ?_⟩, fun r r1 r2 => by rw [wr_k r2, wr_k r1]; exact a2 r r1 r2⟩
      · rw [wr_k (by decide), wr_i]
        by_cases e : r = k
        · rw [if_p e, e, if_p (Nat.lt_succ_self k)]
          unfold jl
          rw [if_p q]
        · rw [if_n e, (a1 r hr).1]
          by_cases e2 : r < k
          · rw [if_p e2, if_p (by omega)]
          · rw [if_n e2, if_n (by omega)]
      · rw [wr_i]
        by_cases e : r = k
        · rw [if_p e, e, if_p (Nat.lt_succ_self k)]
          unfold js
          rw [if_n hne, if_p q]
        · rw [if_n e, wr_k (by decide), (a1 r hr).2]
          by_cases e2 : r < k
          · rw [if_p e2, if_p (by omega)]
          · rw [if_n e2, if_n (by omega)]
    · rw [if_n (J_ne q (by omega) (by omega)), ok_s, J_add]
      refine Or.inl ⟨_, rfl, _, rfl, fun r hr => ?_, a2⟩
      by_cases e : r = k
      · rw [e, if_p (Nat.lt_succ_self k), if_p (Nat.lt_succ_self k), b1, b2]
        unfold jl js
        rw [if_n q, if_n hne, if_n q]
        exact ⟨rfl, rfl⟩
      · by_cases e2 : r < k
        · have := a1 r hr
          rw [if_p e2, if_p e2] at this
          rw [if_p (by omega), if_p (by omega)]
          exact this
        · have := a1 r hr
          rw [if_n e2, if_n e2] at this
          rw [if_n (by omega), if_n (by omega)]
          exact this
  · intro x hx
    obtain ⟨d5, rfl, a1, a2⟩ := hx
    unfold st_G_join_104
    simp only [J_lit]
    rw [a2 281 (by decide) (by decide), h1, if_p ((J_le (by omega) (by omega)).mpr (Nat.le_refl _)), ok_ir, ok_s]
    refine ⟨_, rfl, ⟨by rw [a2 281 (by decide) (by decide)]; exact h1, h2, fun r hr => ⟨?_, ?_, (h3 r hr).2.2.1, ?_, ?_, by rw [a2 284 (by decide) (by decide)]; exact (h3 r hr).2.2.2.2.2⟩⟩, a2⟩
    · unfold jl
      by_cases q : l r = l j
      · rw [if_p q]; exact hli
      · rw [if_n q]; exact (h3 r hr).1
    · unfold js
      rw [if_n hne]
      by_cases q : l r = l j
      · rw [if_p q]; exact xor1 (h3 r hr).2.1 ht5
      · rw [if_n q]; exact (h3 r hr).2.1
    · have := (a1 r hr).1
      rwa [if_p hr] at this
    · have := (a1 r hr).2
      rwa [if_p hr] at this
end JOIN
