/-! 38: the group of a lantern: the class's and the reference's loops -/
section GROUP2
variable {D D' : Nat} {d d1 d2 : Dt} {g g' : Nat → Nat} {x c c' z n k : Nat}
theorem C_conn15 {p : Nat} (hS : Sim d 2 g) (hw : WG g) (hc : c < 2 ^ 8) : f_T_connectedWith_15 (J p) (J c) (J 0) d = some (.inl (J (psC g c (g 4)), J (p + 1))) := by
  have h12 := hw.ns
  have h8 := hw.nl
  have e22 : d 22 0 = J (g 4) := hS.ns
  apply ok_eq
  unfold f_T_connectedWith_15
  refine iter_up 0 (g 4) (fun n s => s = (J (psC g c n), J n)) rfl (by omega) (by omega) ?_ ?_
  · intro n s hn hs
    subst hs
    obtain ⟨w1, w2, w3, w4⟩ := hw.2.2.2.2 n hn
    have e0 : d 23 n = J (g (151 + 3 * n)) := hS.sfi hn
    have e1 : d 24 n = J (g (152 + 3 * n)) := hS.sse hn
    have hl := psC_lt hw hc n (by omega)
    have hand : psC g c n &&& tm g n ≤ psC g c n := Nat.and_le_left
    unfold st_T_connectedWith_15
    simp only [J_lit]
    rw [e22, if_n (fun q => by have := (J_le (by omega) (by omega)).mp q; omega), J_inb (by omega), gd_d (by omega), gd_d (by omega), J_nat (by omega), e0, e1, J_shl (by omega), J_shl (by omega), ok_bnd, J_or, J_and, J_add, show 2 ^ g (151 + 3 * n) ||| 2 ^ g (152 + 3 * n) = tm g n from rfl, J_or]
    have goal : ∀ v, v = (if psC g c n &&& tm g n = 0 then psC g c n else psC g c n ||| tm g n) → (J v, J (n + 1)) = (J (psC g c (n + 1)), J (n + 1)) := fun v hv => by rw [hv]; rfl
    by_cases q : psC g c n &&& tm g n = 0
    · rw [if_p (by rw [q]), ok_s]
      exact Or.inl ⟨_, rfl, goal _ (by rw [if_p q])⟩
    · rw [if_n (J_ne q (by omega) (by decide)), ok_s]
      exact Or.inl ⟨_, rfl, goal _ (by rw [if_n q])⟩
  · intro s hs
    subst hs
    unfold st_T_connectedWith_15
    simp only [J_lit]
    rw [e22, if_p ((J_le (by omega) (by omega)).mpr (Nat.le_refl _)), ok_ir, ok_s, J_add]
    exact ⟨_, rfl, rfl⟩
theorem C_connected (hS : Sim d 2 g) (hw : WG g) (hx : x < g 0) : f_T_connectedWith (J x) d = some (J (grp g x)) := by
  have h8 := hw.nl
  have hc : 2 ^ x < 2 ^ 8 := Nat.pow_lt_pow_right (by decide) (by omega)
  apply ok_eq
  unfold f_T_connectedWith f_T_connectedWith_6
  simp only [J_lit]
  rw [J_shl (by omega)]
  refine iter_up 0 8 (fun n s => s = (J (itC g (2 ^ x) n), J n)) rfl (by decide) (by decide) ?_ ?_
  · intro n s hn hs
    subst hs
    unfold st_T_connectedWith_6
    simp only [J_lit]
    rw [if_n (fun q => by have := (J_le (by decide) (by omega)).mp q; omega), C_conn15 hS hw (itC_lt hw hc n), ok_s]
    exact Or.inl ⟨_, rfl, rfl⟩
  · intro s hs
    subst hs
    unfold st_T_connectedWith_6
    simp only [J_lit]
    rw [if_p ((J_le (by decide) (by decide)).mpr (Nat.le_refl _)), ok_ir, ok_s]
    exact ⟨_, rfl, rfl⟩
theorem M_group16 (hr : rowN d 293 0 g) (hw : WG g) (hc : c < 2 ^ 8) : f_M_group_16 (J c) (J c) (J 0) d = some (.inl (J (psM g c c (g 4)), J c)) := by
  have h12 := hw.ns
  have h8 := hw.nl
  have e4 : d 293 4 = J (g 4) := hr.at (by decide)
  apply ok_eq
  unfold f_M_group_16
  refine iter_up 0 (g 4) (fun n s => s = (J (psM g c c n), J n)) rfl (by omega) (by omega) ?_ ?_
  · intro n s hn hs
    subst hs
    obtain ⟨w1, w2, w3, w4⟩ := hw.2.2.2.2 n hn
    have e0 : d 293 (151 + 3 * n + 0) = J (g (151 + 3 * n)) := hr.at (by omega)
    have e1 : d 293 (151 + 3 * n + 1) = J (g (152 + 3 * n)) := by rw [hr.at (by omega), show 151 + 3 * n + 1 = 152 + 3 * n by omega]
    have hand : c &&& tm g n ≤ c := Nat.and_le_left
    unfold st_M_group_16
    simp only [J_lit]
    rw [e4, if_n (fun q => by have := (J_le (by omega) (by omega)).mp q; omega), M_says (by omega) (by decide), M_says (by omega) (by decide), ob1_s, ob1_s, e0, e1, J_shl (by omega), J_shl (by omega), J_or, J_and, J_add, show 2 ^ g (151 + 3 * n) ||| 2 ^ g (152 + 3 * n) = tm g n from rfl, J_or]
    have goal : ∀ v, v = (if c &&& tm g n = 0 then psM g c c n else psM g c c n ||| tm g n) → (J v, J (n + 1)) = (J (psM g c c (n + 1)), J (n + 1)) := fun v hv => by rw [hv]; rfl
    by_cases q : c &&& tm g n = 0
    · rw [if_p (by rw [q]), ok_s]
      exact Or.inl ⟨_, rfl, goal _ (by rw [if_p q])⟩
    · rw [if_n (J_ne q (by omega) (by decide)), ok_s]
      exact Or.inl ⟨_, rfl, goal _ (by rw [if_n q])⟩
  · intro s hs
    subst hs
    unfold st_M_group_16
    simp only [J_lit]
    rw [e4, if_p ((J_le (by omega) (by omega)).mpr (Nat.le_refl _)), ok_ir, ok_s]
    exact ⟨_, rfl, rfl⟩
theorem M_group (hr : rowN d 293 0 g) (hw : WG g) (hx : x < g 0) : f_M_group (J x) d = some (J (grp g x)) := by
  have h8 := hw.nl
  have hc : 2 ^ x < 2 ^ 8 := Nat.pow_lt_pow_right (by decide) (by omega)
  apply ok_eq
  unfold f_M_group f_M_group_6
  simp only [J_lit]
  rw [J_shl (by omega)]
  refine iter_me 513 (fun n s => ∃ c p, s = (J c, J p) ∧ c < 2 ^ 8 ∧ p < 2 ^ 8 ∧ sub (2 ^ x) c ∧ (∀ z, clo g z → sub (2 ^ x) z → sub c z) ∧ (c = p → clo g c) ∧ 2 * (256 - c) + (if c = p then 0 else 1) ≤ n) ⟨2 ^ x, 0, rfl, hc, by decide, sub_refl, fun z _ h => h, fun q => absurd q (by have := Nat.two_pow_pos x; omega), ?_⟩ (by decide) ?_
  · have hle := Nat.sub_le 256 (2 ^ x)
    generalize 256 - 2 ^ x = y at hle ⊢
    by_cases q : 2 ^ x = 0
    · rw [if_p q]; omega
    · rw [if_n q]; omega
  · intro n s hs
    obtain ⟨c, p, rfl, h1, h2, h3, h4, h5, h6⟩ := hs
    unfold st_M_group_6
    simp only [J_lit]
    by_cases q : c = p
    · rw [if_p (by rw [q]), ok_ir, ok_s]
      exact Or.inr ⟨_, rfl, by rw [grp_eq hw (by omega) (h5 q) h3 h4]⟩
    · rw [if_n (J_ne q (by omega) (by omega)), M_group16 hr hw h1, ok_s]
      have hlt := psM_lt (old := c) hw h1 (g 4) (Nat.le_refl _)
      have hsb := psM_sub (g := g) (old := c) (c := c) (g 4)
      have hle := sub_le hsb
      rw [if_n q] at h6
      refine Or.inl ⟨_, 2 * (256 - psM g c c (g 4)) + (if psM g c c (g 4) = c then 0 else 1), ?_, rfl, psM g c c (g 4), c, rfl, hlt, h1, sub_trans h3 hsb, fun z hz hs => psM_min hz (h4 z hz hs) (g 4) (Nat.le_refl _), fun t => by rw [t]; exact psM_fix t, Nat.le_refl _⟩
      by_cases r : psM g c c (g 4) = c
      · rw [if_p r]; omega
      · rw [if_n r]; omega
end GROUP2
