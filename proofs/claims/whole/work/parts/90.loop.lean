/-! 90: the start, and the law's loop over the script -/
section LOOP
theorem inv0 : Inv 0 d0W := by
  have z : ∀ k j, k ≠ 0 → k ≠ 292 → d0W k j = J 0 := fun k j h1 h2 => by rw [d0_z h1 h2]; rfl
  refine ⟨zg, [], none, -J 1, -J 1, 0, fun _ => 0, 0, fun _ => 0, ?_, ?_, ?_, ?_, ?_, ?_⟩
  · exact ⟨⟨by decide, by decide, by decide, by decide, by decide⟩, fun i hi => absurd hi (Nat.not_lt_zero i), fun k hk => absurd hk (Nat.not_lt_zero k), fun k k' _ hk => absurd hk (Nat.not_lt_zero k'), fun k hk => absurd hk (Nat.not_lt_zero k)⟩
  · exact ⟨⟨by decide, fun u hu => (by cases hu)⟩, fun s hs => (by cases hs), Or.inl rfl, Or.inl rfl, ⟨by decide, fun j hj => absurd hj (Nat.not_lt_zero j)⟩, ⟨by decide, fun j hj => absurd hj (Nat.not_lt_zero j)⟩⟩
  · exact ⟨⟨z _ _ (by decide) (by decide), z _ _ (by decide) (by decide), z _ _ (by decide) (by decide), z _ _ (by decide) (by decide), z _ _ (by decide) (by decide), z _ _ (by decide) (by decide), z _ _ (by decide) (by decide), z _ _ (by decide) (by decide), z _ _ (by decide) (by decide)⟩, fun v hv => z _ _ (by decide) (by decide), fun i hi => absurd hi (Nat.not_lt_zero i), fun k hk => absurd hk (Nat.not_lt_zero k), fun k hk => absurd hk (Nat.not_lt_zero k), fun k hk => Or.inl (z _ _ (by decide) (by decide))⟩
  · exact ⟨⟨rfl, 0, by decide, rfl, fun j hj => absurd hj (Nat.not_lt_zero j)⟩, ⟨rfl, fun s hs => (by cases hs)⟩, rfl, rfl, ⟨z _ _ (by decide) (by decide), fun j hj => absurd hj (Nat.not_lt_zero j)⟩, ⟨z _ _ (by decide) (by decide), fun j hj => absurd hj (Nat.not_lt_zero j)⟩, 0, by decide, z _ _ (by decide) (by decide)⟩
  · exact fun j hj => z _ _ (by decide) (by decide)
  · exact ⟨⟨rfl, fun j hj => absurd hj (Nat.not_lt_zero j)⟩, ⟨rfl, fun s hs => (by cases hs)⟩, rfl, rfl, ⟨rfl, fun j hj => absurd hj (Nat.not_lt_zero j)⟩, ⟨rfl, fun j hj => absurd hj (Nat.not_lt_zero j)⟩, rfl⟩
/-- every command of the script keeps the invariant: what is left of the whole -/
def steps : Prop := ∀ (L : Nat) (xs : Nat → Int32) (i : Nat) (d : Dt) (D : Nat), L ≤ 2560 → i + 5 ≤ L → D + 135 < 100000 → Inv D d → ok (st_W_law_28 L xs (J i) d) (fun y => ∃ d', y = .inl (J i + 5, d') ∧ Inv (D + 135) d')
theorem pure_of (S : steps) : ∀ (L : Nat) (xs : Nat → Int32), L ≤ 2560 → ∃ dE : Dt, f_W_law L xs d0W = some (1, dE) := by
  intro L xs hL
  have h : ok (f_W_law L xs d0W) (fun z => z.1 = 1) := by
    unfold f_W_law f_W_law_28
    refine iter_up 0 (L / 5) (fun c s => ∃ d', s = (J (5 * c), d') ∧ Inv (135 * c) d') ⟨d0W, rfl, inv0⟩ (Nat.zero_le _) (by omega) ?_ ?_
    · intro c s hc hs
      obtain ⟨d', rfl, hI⟩ := hs
      refine ok_mono (S L xs (5 * c) d' (135 * c) hL (by omega) (by omega) hI) (fun y hy => ?_)
      obtain ⟨d2, rfl, h2⟩ := hy
      exact Or.inl ⟨_, rfl, d2, congrArg (fun t => (t, d2)) (J_add : J (5 * c) + J 5 = J (5 * (c + 1))), h2⟩
    · intro s hs
      obtain ⟨d', rfl, hI⟩ := hs
      have hlt : Int32.ofNat L - 5 < J (5 * (L / 5)) := by
        show J L - J 5 < J (5 * (L / 5))
        by_cases h5 : 5 ≤ L
        · rw [J_sub h5, J_lt (by omega) (by omega)]
          omega
        · have e : ∀ l, l < 5 → J l - J 5 < J (5 * (l / 5)) := by decide
          exact e L (by omega)
      unfold st_W_law_28
      rw [if_p hlt, ok_ir, ok_s]
      exact ⟨_, rfl, rfl⟩
  obtain ⟨⟨a, dE⟩, e, h1⟩ := h
  exact ⟨dE, by rw [e]; rw [show a = 1 from h1]⟩
end LOOP
