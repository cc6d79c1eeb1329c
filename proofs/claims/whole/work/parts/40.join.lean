/-! 40: the class's groups: joining two lanterns -/
section JOIN
variable {d d1 d2 : Dt} {n i j t : Nat} {l s c : Nat → Nat}
def GS (d : Dt) (n : Nat) (l s c : Nat → Nat) : Prop := d 281 0 = J n ∧ n ≤ 8 ∧ ∀ i, i < n → l i < n ∧ s i ≤ 1 ∧ c i ≤ 1 ∧ d 282 i = J (l i) ∧ d 283 i = J (s i) ∧ d 284 i = J (c i)
theorem xor1 {a b : Nat} (ha : a ≤ 1) (hb : b ≤ 1) : a ^^^ b ≤ 1 := by
  rcases (by omega : a = 0 ∨ a = 1) with rfl | rfl <;> rcases (by omega : b = 0 ∨ b = 1) with rfl | rfl <;> decide
def t5 (s : Nat → Nat) (i j t : Nat) : Nat := (s i ^^^ s j) ^^^ t
def jl (l : Nat → Nat) (i j : Nat) : Nat → Nat := fun k => if l k = l j then l i else l k
def js (l s : Nat → Nat) (i j t : Nat) : Nat → Nat := fun k => if l i = l j then s k else if l k = l j then s k ^^^ t5 s i j t else s k
def jc (l s c : Nat → Nat) (i j t : Nat) : Nat → Nat := fun r => if r = l i then (if l i = l j then (if c (l i) = 0 then t5 s i j t else 1) else if c (l i) = 0 ∧ c (l j) = 0 then 0 else 1) else c r
theorem G_join104 (h : GS d n l s c) (hi : i < n) (hj : j < n) (ht : t ≤ 1) (hne : l i ≠ l j) : ok (f_G_join_104 (J (l i)) (J (l j)) (J (t5 s i j t)) (J 0) d) (fun d' => GS d' n (jl l i j) (js l s i j t) c ∧ ∀ k, k ≠ 282 → k ≠ 283 → d' k = d k) := by
  obtain ⟨h1, h2, h3⟩ := h
  have hli := (h3 i hi).1
  have hlj := (h3 j hj).1
  have ht5 : t5 s i j t ≤ 1 := xor1 (xor1 (h3 i hi).2.1 (h3 j hj).2.1) ht
  unfold f_G_join_104
  refine iter_up 0 n (fun k x => ∃ d5, x = (J k, d5) ∧ (∀ q, q < n → d5 282 q = J (if q < k then jl l i j q else l q) ∧ d5 283 q = J (if q < k then js l s i j t q else s q)) ∧ ∀ r, r ≠ 282 → r ≠ 283 → d5 r = d r) ⟨d, rfl, fun q hq => ⟨by rw [if_n (Nat.not_lt_zero q)]; exact (h3 q hq).2.2.2.1, by rw [if_n (Nat.not_lt_zero q)]; exact (h3 q hq).2.2.2.2.1⟩, fun _ _ _ => rfl⟩ (Nat.zero_le _) (by omega) ?_ ?_
  · intro k x hk hx
    obtain ⟨d5, rfl, a1, a2⟩ := hx
    have hlk := (h3 k hk).1
    have b1 : d5 282 k = J (l k) := by have := (a1 k hk).1; rwa [if_n (Nat.lt_irrefl k)] at this
    have b2 : d5 283 k = J (s k) := by have := (a1 k hk).2; rwa [if_n (Nat.lt_irrefl k)] at this
    unfold st_G_join_104
    simp only [J_lit]
    rw [a2 281 (by decide) (by decide), h1, if_n (fun q => by have := (J_le (by omega) (by omega)).mp q; omega), J_inb (by omega), gd_d (by omega), J_nat (by omega), b1]
    by_cases q : l k = l j
    · rw [if_p (by rw [q]), gd_d (by omega), ok_bnd, gd_d (by omega), gd_d (by omega), ok_bnd, ok_s, wr_k (show 283 ≠ 282 by decide), b2, J_xor, J_add]
      refine Or.inl ⟨_, rfl, _, rfl, fun r hr => ⟨?_, ?_⟩, fun r r1 r2 => by rw [wr_k r2, wr_k r1]; exact a2 r r1 r2⟩
      · rw [wr_k (by decide), wr_i]
        by_cases e : r = k
        · rw [if_p e, e, if_p (Nat.lt_succ_self k)]
          unfold jl
          rw [if_p q]
        · rw [if_n e, (a1 r hr).1]
          by_cases e2 : r < k
          · rw [if_p e2, if_p (by omega)]
          · rw [if_n e2, if_n (by omega)]
      · rw [wr_i]
        by_cases e : r = k
        · rw [if_p e, e, if_p (Nat.lt_succ_self k)]
          unfold js
          rw [if_n hne, if_p q]
        · rw [if_n e, wr_k (by decide), (a1 r hr).2]
          by_cases e2 : r < k
          · rw [if_p e2, if_p (by omega)]
          · rw [if_n e2, if_n (by omega)]
    · rw [if_n (J_ne q (by omega) (by omega)), ok_s, J_add]
      refine Or.inl ⟨_, rfl, _, rfl, fun r hr => ?_, a2⟩
      by_cases e : r = k
      · rw [e, if_p (Nat.lt_succ_self k), if_p (Nat.lt_succ_self k), b1, b2]
        unfold jl js
        rw [if_n q, if_n hne, if_n q]
        exact ⟨rfl, rfl⟩
      · by_cases e2 : r < k
        · have := a1 r hr
          rw [if_p e2, if_p e2] at this
          rw [if_p (by omega), if_p (by omega)]
          exact this
        · have := a1 r hr
          rw [if_n e2, if_n e2] at this
          rw [if_n (by omega), if_n (by omega)]
          exact this
  · intro x hx
    obtain ⟨d5, rfl, a1, a2⟩ := hx
    unfold st_G_join_104
    simp only [J_lit]
    rw [a2 281 (by decide) (by decide), h1, if_p ((J_le (by omega) (by omega)).mpr (Nat.le_refl _)), ok_ir, ok_s]
    refine ⟨_, rfl, ⟨by rw [a2 281 (by decide) (by decide)]; exact h1, h2, fun r hr => ⟨?_, ?_, (h3 r hr).2.2.1, ?_, ?_, by rw [a2 284 (by decide) (by decide)]; exact (h3 r hr).2.2.2.2.2⟩⟩, a2⟩
    · unfold jl
      by_cases q : l r = l j
      · rw [if_p q]; exact hli
      · rw [if_n q]; exact (h3 r hr).1
    · unfold js
      rw [if_n hne]
      by_cases q : l r = l j
      · rw [if_p q]; exact xor1 (h3 r hr).2.1 ht5
      · rw [if_n q]; exact (h3 r hr).2.1
    · have := (a1 r hr).1
      rwa [if_p hr] at this
    · have := (a1 r hr).2
      rwa [if_p hr] at this
/-- one cell of the clashes is written -/
theorem GS.clash {v r : Nat} (h : GS d n l s c) (hr : r < n) (hv : v ≤ 1) : GS (wr d 284 r (J v)) n l s (fun k => if k = r then v else c k) := by
  obtain ⟨h1, h2, h3⟩ := h
  refine ⟨by rw [wr_k (by decide)]; exact h1, h2, fun k hk => ?_⟩
  obtain ⟨a1, a2, a3, a4, a5, a6⟩ := h3 k hk
  refine ⟨a1, a2, ?_, by rw [wr_k (by decide)]; exact a4, by rw [wr_k (by decide)]; exact a5, ?_⟩
  · dsimp only
    by_cases q : k = r
    · rw [if_p q]; exact hv
    · rw [if_n q]; exact a3
  · rw [wr_i]
    dsimp only
    by_cases q : k = r
    · rw [if_p q, if_p q]
    · rw [if_n q, if_n q]; exact a6
theorem jl_same (h : l i = l j) : jl l i j = l := by
  funext k
  unfold jl
  by_cases q : l k = l j
  · rw [if_p q, h, q]
  · rw [if_n q]
theorem js_same (h : l i = l j) : js l s i j t = s := by
  funext k
  unfold js
  rw [if_p h]
theorem C_join (h : GS d n l s c) (hi : i < n) (hj : j < n) (ht : t ≤ 1) : ok (f_G_join (J i) (J j) (J t) d) (fun d' => GS d' n (jl l i j) (js l s i j t) (jc l s c i j t) ∧ ∀ k, k ≠ 282 → k ≠ 283 → k ≠ 284 → d' k = d k) := by
  have h0 := h
  obtain ⟨h1, h2, h3⟩ := h
  obtain ⟨i1, i2, i3, i4, i5, i6⟩ := h3 i hi
  obtain ⟨j1, j2, j3, j4, j5, j6⟩ := h3 j hj
  obtain ⟨_, _, li3, _, _, li6⟩ := h3 (l i) i1
  obtain ⟨_, _, lj3, _, _, lj6⟩ := h3 (l j) j1
  have ht5 : t5 s i j t ≤ 1 := xor1 (xor1 i2 j2) ht
  have fin1 : ∀ v, v ≤ 1 → l i = l j → v = (if c (l i) = 0 then t5 s i j t else 1) → GS (wr d 284 (l i) (J v)) n (jl l i j) (js l s i j t) (jc l s c i j t) ∧ ∀ k, k ≠ 282 → k ≠ 283 → k ≠ 284 → (wr d 284 (l i) (J v)) k = d k := fun v hv hl hv2 => by
    refine ⟨?_, fun k _ _ h5 => wr_k h5⟩
    rw [jl_same hl, js_same hl]
    have e : jc l s c i j t = fun k => if k = l i then v else c k := by
      funext k
      unfold jc
      rw [if_p hl, hv2]
    rw [e]
    exact h0.clash i1 hv
  have fin2 : ∀ v, v ≤ 1 → l i ≠ l j → v = (if c (l i) = 0 ∧ c (l j) = 0 then 0 else 1) → ok (f_G_join_104 (J (l i)) (J (l j)) (J (t5 s i j t)) (J 0) (wr d 284 (l i) (J v))) (fun d' => GS d' n (jl l i j) (js l s i j t) (jc l s c i j t) ∧ ∀ k, k ≠ 282 → k ≠ 283 → k ≠ 284 → d' k = d k) := fun v hv hl hv2 => by
    refine ok_mono (G_join104 (h0.clash i1 hv) hi hj ht hl) (fun d' hd => ⟨?_, fun k k1 k2 k3 => by rw [hd.2 k k1 k2, wr_k k3]⟩)
    have e : jc l s c i j t = fun k => if k = l i then v else c k := by
      funext k
      unfold jc
      rw [if_n hl, hv2]
    rw [e]
    exact hd.1
  unfold f_G_join f_G_join_62 f_G_join_67 f_G_join_95 f_G_join_100
  simp only [J_lit]
  rw [J_inb (by omega), gd_d (by omega), J_inb (by omega), gd_d (by omega), gd_d (by omega), gd_d (by omega), J_nat (by omega), J_nat (by omega), ok_bnd, i4, i5, j4, j5, J_xor, J_xor, show (s i ^^^ s j) ^^^ t = t5 s i j t from rfl, J_inb (by omega), J_inb (by omega), J_nat (by omega), J_nat (by omega), li6, lj6]
  by_cases q : l i = l j
  · rw [if_p (by rw [q]), gd_d (by omega)]
    by_cases q2 : c (l i) = 0
    · rw [if_p (by rw [q2])]
      by_cases q3 : t5 s i j t = 1
      · rw [if_p (by rw [q3]), gd_d (by omega), gd_t1 (nar01 (t := 1) (by decide)), ok_bnd, ok_s]
        exact fin1 1 (by decide) q (by rw [if_p q2, q3])
      · rw [if_n (J_ne q3 (by omega) (by decide)), gd_d (by omega), gd_t1 (nar01 (t := 0) (by decide)), ok_bnd, ok_s]
        exact fin1 0 (by decide) q (by rw [if_p q2]; omega)
    · rw [if_n (J_ne q2 (by omega) (by decide)), gd_d (by omega), gd_t1 (nar01 (t := 1) (by decide)), ok_bnd, ok_s]
      exact fin1 1 (by decide) q (by rw [if_n q2])
  · rw [if_n (J_ne q (by omega) (by omega)), gd_d (by omega)]
    by_cases q2 : c (l i) = 0
    · rw [if_p (by rw [q2]), gd_d (by omega)]
      by_cases q3 : c (l j) = 0
      · rw [if_p (by rw [q3]), gd_d (by omega), gd_t1 (nar01 (t := 0) (by decide)), ok_bnd]
        exact fin2 0 (by decide) q (by rw [if_p ⟨q2, q3⟩])
      · rw [if_n (J_ne q3 (by omega) (by decide)), gd_d (by omega), gd_t1 (nar01 (t := 1) (by decide)), ok_bnd]
        exact fin2 1 (by decide) q (by rw [if_n (fun t => q3 t.2)])
    · rw [if_n (J_ne q2 (by omega) (by decide)), gd_d (by omega), gd_t1 (nar01 (t := 1) (by decide)), ok_bnd]
      exact fin2 1 (by decide) q (by rw [if_n (fun t => q2 t.1)])
end JOIN
