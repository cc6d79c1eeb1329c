/-! 42: the class's groups: the loop over the statements -/
section FIND
variable {D : Nat} {d : Dt} {g l s c : Nat → Nat} {m : Int32} {Q : Dt → Prop}
def seen (m : Int32) (n : Nat) : Nat → Prop := fun q => q < n ∧ m.toBitVec.getLsbD q = true
theorem seen_0 {m : Int32} {q : Nat} : ¬ seen m 0 q := fun h => Nat.not_lt_zero q h.1
theorem seen_n {m : Int32} {n : Nat} (h : m.toBitVec.getLsbD n = false) : seen m (n + 1) = seen m n := by
  funext q
  apply propext
  refine ⟨fun ⟨h1, h2⟩ => ⟨?_, h2⟩, fun ⟨h1, h2⟩ => ⟨by omega, h2⟩⟩
  rcases (by omega : q < n ∨ q = n) with e | e
  · exact e
  · rw [e, h] at h2
    cases h2
theorem seen_y {m : Int32} {n : Nat} (h : m.toBitVec.getLsbD n = true) : ∀ k, seen m (n + 1) k ↔ seen m n k ∨ k = n := by
  intro q
  refine ⟨fun ⟨h1, h2⟩ => ?_, fun hh => ?_⟩
  · rcases (by omega : q < n ∨ q = n) with e | e
    · exact Or.inl ⟨e, h2⟩
    · exact Or.inr e
  · rcases hh with ⟨h1, h2⟩ | rfl
    · exact ⟨by omega, h2⟩
    · exact ⟨Nat.lt_succ_self q, h⟩
theorem C_find62 (hS : Sim d 2 g) (hw : WG g) (h : GS d (g 0) l s c) (hG : GI g l s c (seen m 0)) (hK : ∀ d5 l s c, GS d5 (g 0) l s c → GI g l s c (seen m (g 4)) → (∀ k, k ≠ 282 → k ≠ 283 → k ≠ 284 → d5 k = d k) → ok (f_G_find_123 (J 0) d5) Q) : ok (f_G_find_62 m (J 0) d) Q := by
  have h12 := hw.ns
  have h8 := hw.nl
  have e22 : d 22 0 = J (g 4) := hS.ns
  unfold f_G_find_62
  refine iter_up 0 (g 4) (fun k x => ∃ d5 l s c, x = (J k, d5) ∧ GS d5 (g 0) l s c ∧ GI g l s c (seen m k) ∧ ∀ r, r ≠ 282 → r ≠ 283 → r ≠ 284 → d5 r = d r) ⟨d, l, s, c, rfl, h, hG, fun _ _ _ _ => rfl⟩ (Nat.zero_le _) (by omega) ?_ ?_
  · intro k x hk hx
    obtain ⟨d5, l, s, c, rfl, a1, a2, a3⟩ := hx
    obtain ⟨w1, w2, w3, w4⟩ := hw.2.2.2.2 k hk
    have f1 : d5 23 k = J (g (151 + 3 * k)) := by rw [a3 23 (by decide) (by decide) (by decide)]; exact hS.sfi hk
    have f2 : d5 24 k = J (g (152 + 3 * k)) := by rw [a3 24 (by decide) (by decide) (by decide)]; exact hS.sse hk
    have f3 : d5 25 k = J (g (153 + 3 * k)) := by rw [a3 25 (by decide) (by decide) (by decide)]; exact hS.sto hk
    have go : ∀ t, t ≤ 1 → t = (if g (153 + 3 * k) = 0 then 1 else 0) → m.toBitVec.getLsbD k = true → ok (ob1 (f_G_join (J (g (151 + 3 * k))) (J (g (152 + 3 * k))) (J t) d5) fun d1 => some (.inl ((J k + J 1), d1)) : Option ((Int32 × Dt) ⊕ Dt)) (fun y => (∃ s', y = .inl s' ∧ ∃ d5 l s c, s' = (J (k + 1), d5) ∧ GS d5 (g 0) l s c ∧ GI g l s c (seen m (k + 1)) ∧ ∀ r, r ≠ 282 → r ≠ 283 → r ≠ 284 → d5 r = d r) ∨ ∃ x, y = .inr x ∧ Q x) := by
      intro t ht ht2 hb
      rw [ok_ob1]
      refine ok_mono (C_join a1 w1 w2 ht) (fun d6 h6 => ?_)
      rw [ok_s, J_add]
      exact Or.inl ⟨_, rfl, d6, _, _, _, rfl, h6.1, GI_join hw a2 hk ht2 (seen_y hb), fun r r1 r2 r3 => (h6.2 r r1 r2 r3).trans (a3 r r1 r2 r3)⟩
    unfold st_G_find_62 f_G_find_111
    simp only [J_lit]
    rw [a3 22 (by decide) (by decide) (by decide), e22, if_n (fun q => by have := (J_le (by omega) (by omega)).mp q; omega), J_bitg (by omega), J_inb (by omega), gd_d (by omega), gd_d (by omega), gd_d (by omega), J_nat (by omega), f1, f2, f3]
    cases hb : m.toBitVec.getLsbD k with
    | true =>
      rw [if_p rfl, if_p rfl]
      by_cases q : g (153 + 3 * k) = 0
      · rw [if_p (by rw [q])]
        exact go 1 (by decide) (by rw [if_p q]) hb
      · rw [if_n (J_ne q (by omega) (by decide))]
        exact go 0 (by decide) (by rw [if_n q]) hb
    | false =>
      rw [if_n (show ¬ J (if false = true then 1 else 0) = J 1 by decide), ok_s, J_add]
      exact Or.inl ⟨_, rfl, d5, l, s, c, rfl, a1, by rw [seen_n hb]; exact a2, a3⟩
  · intro x hx
    obtain ⟨d5, l, s, c, rfl, a1, a2, a3⟩ := hx
    unfold st_G_find_62
    simp only [J_lit]
    rw [a3 22 (by decide) (by decide) (by decide), e22, if_p ((J_le (by omega) (by omega)).mpr (Nat.le_refl _)), ok_ir]
    exact ok_mono (hK d5 l s c a1 a2 a3) (fun t ht => ⟨t, rfl, ht⟩)
theorem GI_0 : GI g (fun k => k) (fun _ => 0) (fun _ => 0) (seen m 0) := by
  refine ⟨fun i hi => ⟨hi, rfl, rfl, Nat.zero_le 1, Nat.zero_le 1⟩, fun q hq => absurd hq seen_0, fun r hr _ a => ⟨fun _ => ⟨rfl, fun i hi e => ?_⟩, fun _ q hq => absurd hq seen_0⟩, fun z _ i j _ _ e hz => ?_⟩
  · rw [show i = r from e]
    exact (Bool.xor_false _).symm
  · rw [← show i = j from e]
    exact hz
theorem C_find11 (hS : Sim d 2 g) (hw : WG g) (h1 : d 281 0 = J (g 0)) (hK : ∀ d5 l s c, GS d5 (g 0) l s c → GI g l s c (seen m (g 4)) → (∀ k, k < g 0 → d5 285 k = J 0) → (∀ k, k < 281 ∨ 286 ≤ k → d5 k = d k) → ok (f_G_find_123 (J 0) d5) Q) : ok (f_G_find_11 m (J 0) d) Q := by
  have h8 := hw.nl
  unfold f_G_find_11
  refine iter_up 0 (g 0) (fun n x => ∃ d5, x = (J n, d5) ∧ (∀ k, k < n → d5 282 k = J k ∧ d5 283 k = J 0 ∧ d5 284 k = J 0 ∧ d5 285 k = J 0) ∧ (∀ k, k < 282 ∨ 286 ≤ k → d5 k = d k)) ⟨d, rfl, fun k hk => absurd hk (Nat.not_lt_zero k), fun _ _ => rfl⟩ (Nat.zero_le _) (by omega) ?_ ?_
  · intro n x hn hx
    obtain ⟨d5, rfl, a1, a2⟩ := hx
    unfold st_G_find_11
    simp only [J_lit]
    rw [a2 281 (by omega), h1, if_n (fun q => by have := (J_le (by omega) (by omega)).mp q; omega), J_inb (by omega), gd_d (by omega), J_nat (by omega), ok_bnd, gd_d (by omega), ok_bnd, gd_d (by omega), ok_bnd, gd_d (by omega), ok_bnd, ok_s, J_add]
    refine Or.inl ⟨_, rfl, _, rfl, fun k hk => ?_, fun k hk => ?_⟩
    · rcases (by omega : k < n ∨ k = n) with e | rfl
      · obtain ⟨b1, b2, b3, b4⟩ := a1 k e
        refine ⟨?_, ?_, ?_, ?_⟩
        · rw [wr_k (by decide), wr_k (by decide), wr_k (by decide), wr_j (by omega)]; exact b1
        · rw [wr_k (by decide), wr_k (by decide), wr_j (by omega), wr_k (by decide)]; exact b2
        · rw [wr_k (by decide), wr_j (by omega), wr_k (by decide), wr_k (by decide)]; exact b3
        · rw [wr_j (by omega), wr_k (by decide), wr_k (by decide), wr_k (by decide)]; exact b4
      · refine ⟨?_, ?_, ?_, wr_s⟩
        · rw [wr_k (by decide), wr_k (by decide), wr_k (by decide), wr_s]
        · rw [wr_k (by decide), wr_k (by decide), wr_s]
        · rw [wr_k (by decide), wr_s]
    · rw [wr_k (by omega), wr_k (by omega), wr_k (by omega), wr_k (by omega)]
      exact a2 k hk
  · intro x hx
    obtain ⟨d5, rfl, a1, a2⟩ := hx
    unfold st_G_find_11
    simp only [J_lit]
    rw [a2 281 (by omega), h1, if_p ((J_le (by omega) (by omega)).mpr (Nat.le_refl _)), ok_ir]
    have hS5 : Sim d5 2 g := hS.same hw.nl (fun k h3 h4 => a2 k (by omega))
    have hGS : GS d5 (g 0) (fun k => k) (fun _ => 0) (fun _ => 0) := ⟨by rw [a2 281 (by omega)]; exact h1, h8, fun k hk => ⟨hk, Nat.zero_le 1, Nat.zero_le 1, (a1 k hk).1, (a1 k hk).2.1, (a1 k hk).2.2.1⟩⟩
    refine ok_mono (C_find62 hS5 hw hGS GI_0 (fun d6 l s c b1 b2 b3 => hK d6 l s c b1 b2 (fun k hk => ?_) (fun k hk => ?_))) (fun t ht => ⟨t, rfl, ht⟩)
    · rw [b3 285 (by decide) (by decide) (by decide)]
      exact (a1 k hk).2.2.2
    · rw [b3 k (by omega) (by omega) (by omega)]
      exact a2 k (by omega)
end FIND
