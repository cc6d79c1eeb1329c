/-! 22: the class: a sentence ends; the ranges stay -/
theorem C_endSentence {d : Dt} {D i : Nat} {g : Nat → Nat} (hS : Sim d 2 g) (h8 : g 0 ≤ 8) (hscs : ∀ i, i < g 0 → g (15 + 11 * i) ≤ 8) (h10 : g 3 ≤ 10) (h12 : g 4 ≤ 12) (hi : i < g 0) (h1 : 1 ≤ g (15 + 11 * i)) : ok (f_L_endSentence (J i) d) (fun z => z.1 = J (g (16 + 11 * i)) ∧ Sim z.2 2 (endsG g i) ∧ fr2 d z.2) := by
  have hsc := hscs i hi
  have e : d 6 i = J (g (15 + 11 * i)) := hS.sc hi
  have es : ∀ j, j < g (15 + 11 * i) → d (8 + i) j = J (g (16 + 11 * i + j)) := fun j hj => hS.sen hi hj
  unfold f_L_endSentence
  simp only [J_lit]
  have es0 := es 0 (by omega)
  rw [Nat.add_zero] at es0
  simp (disch := omega) only [ite_true, ite_false, J_lit, J_add, J_mul, J_nat, J_inb, J_le, J_lt, J_inj, J_sub, J_div, gd_d, if_p, if_n, ob1_s, ob2_s, ir_s, e, es0, ok_bnd]
  unfold f_L_endSentence_24
  refine iter_up 0 (g (15 + 11 * i) - 1) (fun k s => ∃ d5, s = (J k, d5) ∧ (∀ q, q ≠ 6 → q ≠ 8 + i → d5 q = d q) ∧ (∀ j, d5 6 j = if j = i then J (g (15 + 11 * i) - 1) else d 6 j) ∧ ∀ j, j < g (15 + 11 * i) → d5 (8 + i) j = if j < k then d (8 + i) (j + 1) else d (8 + i) j) ⟨_, rfl, fun q h1 h2 => wr_k h1, fun j => wr_i, fun j hj => ?_⟩ (by omega) (by omega) ?_ ?_
  · rw [wr_k (by omega), if_n (by omega)]
  · intro k s hk hs
    obtain ⟨d5, rfl, q1, q2, q3⟩ := hs
    show ok (st_L_endSentence_24 (J i) (J (g (16 + 11 * i))) (J k) d5) _
    unfold st_L_endSentence_24
    simp only [J_lit]
    have e6 : d5 6 i = J (g (15 + 11 * i) - 1) := by rw [q2, if_p rfl]
    simp (disch := omega) only [ite_true, ite_false, J_lit, J_add, J_mul, J_nat, J_inb, J_le, J_lt, J_inj, J_sub, J_div, gd_d, if_p, if_n, ob1_s, ob2_s, ir_s, e6, ok_bnd, ok_s]
    refine Or.inl ⟨_, rfl, _, rfl, fun q h1 h2 => ?_, fun j => ?_, fun j hj => ?_⟩
    · rw [wr_k h2]; exact q1 q h1 h2
    · rw [wr_k (by omega)]; exact q2 j
    · rw [wr_i]
      by_cases hjk : j = k
      · rw [if_p hjk, if_p (by omega), q3 (k + 1) (by omega), if_n (by omega), hjk]
      · rw [if_n hjk, q3 j hj]
        by_cases hj2 : j < k
        · rw [if_p hj2, if_p (by omega)]
        · rw [if_n hj2, if_n (by omega)]
  · intro s hs
    obtain ⟨d5, rfl, q1, q2, q3⟩ := hs
    show ok (st_L_endSentence_24 (J i) (J (g (16 + 11 * i))) (J (g (15 + 11 * i) - 1)) d5) _
    unfold st_L_endSentence_24
    have e6 : d5 6 i = J (g (15 + 11 * i) - 1) := by rw [q2, if_p rfl]
    simp (disch := omega) only [ite_true, ite_false, J_lit, J_add, J_mul, J_nat, J_inb, J_le, J_lt, J_inj, J_sub, J_div, gd_d, if_p, if_n, ob1_s, ob2_s, ir_s, e6, ok_ir, ok_s]
    refine ⟨_, rfl, rfl, ?_, fun k hk => q1 k (by omega) (by omega)⟩
    show Sim d5 2 (endsG g i)
    have an : ∀ q, (q < 15 + 11 * i ∨ 24 + 11 * i ≤ q) → endsG g i q = g q := fun q h => by
      unfold endsG
      rw [if_n (by omega), if_n (by omega), if_n (by omega)]
    refine Sim_mk ?_ (hS.H.cong (q1 _ (by omega) (by omega)) (fun v hv => an _ (by omega))) (fun k hk => ?_) (hS.B.cong (fun o h1 h2 => q1 _ (by omega) (by omega)) (an 3 (by omega)) h10 (fun q h1 h2 => an q (by omega))) (hS.S.cong (fun o h1 h2 => q1 _ (by omega) (by omega)) (an 4 (by omega)) h12 (fun q h1 h2 => an q (by omega))) (hS.T.cong (q1 _ (by omega) (by omega)))
    · unfold sgA
      rw [an 0 (by omega), an 1 (by omega), an 2 (by omega), an 3 (by omega), an 4 (by omega), an 5 (by omega), an 6 (by omega), an 11 (by omega), an 12 (by omega), q1 2 (by omega) (by omega), q1 (2 + 1) (by omega) (by omega), q1 (2 + 14) (by omega) (by omega), q1 (2 + 20) (by omega) (by omega)]
      exact hS.A
    · rw [an 0 (by omega)] at hk
      have hsk := hscs k hk
      by_cases hki : k = i
      · subst hki
        have a15 : endsG g k (15 + 11 * k) = g (15 + 11 * k) - 1 := by unfold endsG; rw [if_p rfl]
        rw [an _ (by omega), an _ (by omega), a15, q1 (2 + 2) (by omega) (by omega), q1 (2 + 3) (by omega) (by omega)]
        refine ⟨hS.bri hk, hS.adm hk, e6, fun j hj => ?_⟩
        rw [show 2 + 6 + k = 8 + k by omega, q3 j (by omega), if_p hj, es (j + 1) (by omega)]
        unfold endsG
        rw [if_n (by omega), if_p (by omega)]
        congr 1
      · have ak : ∀ q, 13 + 11 * k ≤ q → q < 24 + 11 * k → endsG g i q = g q := fun q h1 h2 => an q (by omega)
        rw [ak _ (by omega) (by omega), ak _ (by omega) (by omega), ak (15 + 11 * k) (by omega) (by omega), q1 (2 + 2) (by omega) (by omega), q1 (2 + 3) (by omega) (by omega)]
        refine ⟨hS.bri hk, hS.adm hk, ?_, fun j hj => ?_⟩
        · show d5 6 k = _
          rw [q2, if_n hki]
          exact hS.sc hk
        · rw [ak _ (by omega) (by omega), q1 _ (by omega) (by omega)]
          exact hS.sen hk hj
theorem WF_add {D : Nat} {g : Nat → Nat} (h : WF D g) (hn : g 0 < 8) : WF D (addG g) := by
  have a0 : addG g 0 = g 0 + 1 := by unfold addG; rw [if_p rfl]
  have an : ∀ q, q ≠ 0 → (q < 13 ∨ 101 ≤ q) → addG g q = g q := fun q h1 h2 => by unfold addG; rw [if_n h1, if_n (by omega)]
  have h10 := h.nb
  have h12 := h.ns
  have h8 := h.nl
  have hd := h.day
  have hx := h.nx
  refine ⟨⟨?_, ?_, ?_, ?_, ?_⟩, fun i hi => ?_, fun k hk => ?_, fun k k' h1 h2 => ?_, fun k hk => ?_⟩
  · rw [a0]; omega
  · simp (disch := omega) only [an]; exact hd
  · simp (disch := omega) only [an]; exact hx
  · simp (disch := omega) only [an]; exact h10
  · simp (disch := omega) only [an]; exact h12
  · rw [a0] at hi
    by_cases hin : i = g 0
    · subst hin
      have b1 : addG g (13 + 11 * g 0) = 9 := by unfold addG; rw [if_n (by omega), if_p (by omega), if_p rfl]
      have b2 : addG g (14 + 11 * g 0) = 0 := by unfold addG; rw [if_n (by omega), if_p (by omega), if_n (by omega)]
      have b3 : addG g (15 + 11 * g 0) = 0 := by unfold addG; rw [if_n (by omega), if_p (by omega), if_n (by omega)]
      rw [b1, b2, b3]
      exact ⟨by omega, by omega, by omega, fun j hj => absurd hj (Nat.not_lt_zero j)⟩
    · have hi2 : i < g 0 := by omega
      have hsc := h.sc hi2
      have c : ∀ q, 13 + 11 * i ≤ q → q < 24 + 11 * i → addG g q = g q := fun q h1 h2 => by unfold addG; rw [if_n (by omega), if_n (by omega)]
      rw [c _ (by omega) (by omega), c _ (by omega) (by omega), c (15 + 11 * i) (by omega) (by omega)]
      refine ⟨h.bri hi2, h.adm hi2, hsc, fun j hj => ?_⟩
      rw [c _ (by omega) (by omega)]
      exact h.sen hi2 hj
  · rw [an 3 (by decide) (by decide)] at hk
    have hb := h.br hk
    simp (disch := omega) only [an, a0]
    omega
  · rw [an 3 (by decide) (by decide)] at h2
    simp (disch := omega) only [an]
    exact h.ids h1 h2
  · rw [an 4 (by decide) (by decide)] at hk
    have hb := h.st hk
    simp (disch := omega) only [an, a0]
    omega
theorem WF_file {D i n f s : Nat} {g : Nat → Nat} (h : WF D g) (hD : g 2 + 1 ≤ D) (hb : g 3 < 10) (hi : i < g 0) (hn : 1 ≤ n ∧ n ≤ 12) (hf : 1 ≤ f ∧ f ≤ 50) (hs : 1 ≤ s ∧ s ≤ 9) : WF D (fileG g i n f s) := by
  have h8 := h.nl
  have hd := h.day
  have h12 := h.ns
  have an : ∀ q, q ≠ 2 → q ≠ 3 → q ≠ 6 → (q < 101 + 5 * g 3 ∨ 106 + 5 * g 3 ≤ q) → fileG g i n f s q = g q := fun q h1 h2 h3 h4 => by
    unfold fileG
    rw [updG_n h3, updG_n h1, updG_n h2, updG_n (by omega), updG_n (by omega), updG_n (by omega), updG_n (by omega), updG_n (by omega)]
  have a2 : fileG g i n f s 2 = g 2 + 1 := by unfold fileG; rw [updG_n (by decide), updG_s]
  have a3 : fileG g i n f s 3 = g 3 + 1 := by unfold fileG; rw [updG_n (by decide), updG_n (by decide), updG_s]
  have b0 : fileG g i n f s (101 + 5 * g 3) = g 2 := by unfold fileG; rw [updG_n (by omega), updG_n (by omega), updG_n (by omega), updG_n (by omega), updG_n (by omega), updG_n (by omega), updG_n (by omega)]; exact updG_s
  have b1 : fileG g i n f s (102 + 5 * g 3) = i := by unfold fileG; rw [updG_n (by omega), updG_n (by omega), updG_n (by omega), updG_n (by omega), updG_n (by omega), updG_n (by omega)]; rw [show 102 + 5 * g 3 = 101 + 5 * g 3 + 1 by omega]; exact updG_s
  have b2 : fileG g i n f s (103 + 5 * g 3) = g 1 + n := by unfold fileG; rw [updG_n (by omega), updG_n (by omega), updG_n (by omega), updG_n (by omega), updG_n (by omega)]; rw [show 103 + 5 * g 3 = 101 + 5 * g 3 + 2 by omega]; exact updG_s
  have b3 : fileG g i n f s (104 + 5 * g 3) = f := by unfold fileG; rw [updG_n (by omega), updG_n (by omega), updG_n (by omega), updG_n (by omega)]; rw [show 104 + 5 * g 3 = 101 + 5 * g 3 + 3 by omega]; exact updG_s
  have b4 : fileG g i n f s (105 + 5 * g 3) = s := by unfold fileG; rw [updG_n (by omega), updG_n (by omega), updG_n (by omega)]; rw [show 105 + 5 * g 3 = 101 + 5 * g 3 + 4 by omega]; exact updG_s
  refine ⟨⟨?_, ?_, ?_, ?_, ?_⟩, fun i hi => ?_, fun k hk => ?_, fun k k' h1 h2 => ?_, fun k hk => ?_⟩
  · simp (disch := omega) only [an]; exact h8
  · simp (disch := omega) only [an]; exact hd
  · rw [a2]; exact hD
  · rw [a3]; omega
  · simp (disch := omega) only [an]; exact h12
  · rw [an 0 (by decide) (by decide) (by decide) (by omega)] at hi
    have hsc := h.sc hi
    simp (disch := omega) only [an]
    refine ⟨h.bri hi, h.adm hi, hsc, fun j hj => ?_⟩
    simp (disch := omega) only [an]
    exact h.sen hi hj
  · rw [a3] at hk
    by_cases hkn : k = g 3
    · subst hkn
      rw [b0, b1, b2, b3, b4, a2, an 0 (by decide) (by decide) (by decide) (by omega), an 1 (by decide) (by decide) (by decide) (by omega)]
      omega
    · have hk2 : k < g 3 := by omega
      have hbr := h.br hk2
      simp (disch := omega) only [an, a2]
      omega
  · rw [a3] at h2
    by_cases hkn : k' = g 3
    · subst hkn
      rw [b0, an (101 + 5 * k) (by omega) (by omega) (by omega) (by omega)]
      exact (h.br h1).1
    · simp (disch := omega) only [an]
      exact h.ids h1 (by omega)
  · rw [an 4 (by decide) (by decide) (by decide) (by omega)] at hk
    have hst := h.st hk
    simp (disch := omega) only [an]
    exact hst
theorem WF_goes {D p : Nat} {g : Nat → Nat} (h : WF D g) (hp : p < g 3) : WF D (goesG g p) := by
  have h8 := h.nl
  have hd := h.day
  have hx := h.nx
  have h10 := h.nb
  have h12 := h.ns
  have an : ∀ q, q ≠ 3 → (q < 101 ∨ 151 ≤ q) → goesG g p q = g q := fun q h1 h2 => by unfold goesG; rw [if_n h1, if_n (by omega), if_n (by omega)]
  have a3 : goesG g p 3 = g 3 - 1 := by unfold goesG; rw [if_p rfl]
  have key : ∀ c k, k < g 3 - 1 → 101 ≤ c → c < 106 → goesG g p (c + 5 * k) = g (c + 5 * (if p ≤ k then k + 1 else k)) := by
    intro c k hk h3 h4
    unfold goesG
    by_cases hk2 : p ≤ k
    · rw [if_n (by omega), if_p (by omega), if_p hk2]
      congr 1
    · rw [if_n (by omega), if_n (by omega), if_n (by omega), if_n hk2]
  refine ⟨⟨?_, ?_, ?_, ?_, ?_⟩, fun i hi => ?_, fun k hk => ?_, fun k k' h1 h2 => ?_, fun k hk => ?_⟩
  · simp (disch := omega) only [an]; exact h8
  · simp (disch := omega) only [an]; exact hd
  · simp (disch := omega) only [an]; exact hx
  · rw [a3]; omega
  · simp (disch := omega) only [an]; exact h12
  · rw [an 0 (by decide) (by decide)] at hi
    have hsc := h.sc hi
    simp (disch := omega) only [an]
    refine ⟨h.bri hi, h.adm hi, hsc, fun j hj => ?_⟩
    simp (disch := omega) only [an]
    exact h.sen hi hj
  · rw [a3] at hk
    have hb := h.br (k := if p ≤ k then k + 1 else k) (by split <;> omega)
    rw [key 101 k hk (by decide) (by decide), key 102 k hk (by decide) (by decide), key 103 k hk (by decide) (by decide), key 104 k hk (by decide) (by decide), key 105 k hk (by decide) (by decide), an 0 (by decide) (by decide), an 1 (by decide) (by decide), an 2 (by decide) (by decide)]
    exact hb
  · rw [a3] at h2
    rw [key 101 k (by omega) (by decide) (by decide), key 101 k' h2 (by decide) (by decide)]
    refine h.ids ?_ ?_
    · split <;> split <;> omega
    · split <;> omega
  · rw [an 4 (by decide) (by decide)] at hk
    have hst := h.st hk
    simp (disch := omega) only [an]
    exact hst
/-- sums may change -/
theorem WF_sum {D : Nat} {g g' : Nat → Nat} (h : WF D g) (hg : ∀ q, q < 5 ∨ 13 ≤ q → g' q = g q) : WF D g' := by
  refine ⟨⟨?_, ?_, ?_, ?_, ?_⟩, fun i hi => ?_, fun k hk => ?_, fun k k' h1 h2 => ?_, fun k hk => ?_⟩
  · simp (disch := omega) only [hg]; exact h.nl
  · simp (disch := omega) only [hg]; exact h.day
  · simp (disch := omega) only [hg]; exact h.nx
  · simp (disch := omega) only [hg]; exact h.nb
  · simp (disch := omega) only [hg]; exact h.ns
  · rw [hg 0 (by decide)] at hi
    have hsc := h.sc hi
    simp (disch := omega) only [hg]
    exact ⟨h.bri hi, h.adm hi, hsc, fun j hj => h.sen hi hj⟩
  · rw [hg 3 (by decide)] at hk
    have hb := h.br hk
    simp (disch := omega) only [hg]
    exact hb
  · rw [hg 3 (by decide)] at h2
    simp (disch := omega) only [hg]
    exact h.ids h1 h2
  · rw [hg 4 (by decide)] at hk
    have hst := h.st hk
    simp (disch := omega) only [hg]
    exact hst
theorem WF_back {D p : Nat} {g : Nat → Nat} (h : WF D g) (hp : p < g 3) : WF D (backG g p) :=
  WF_goes (WF_sum h (fun q hq => updG_n (by omega))) (by rw [updG_n (by decide)]; exact hp)
theorem WF_st {D x y t : Nat} {g : Nat → Nat} (h : WF D g) (hn : g 4 < 12) (hx : x < g 0) (hy : y < g 0) (hxy : x ≠ y) (ht : t ≤ 1) : WF D (stG g x y t) := by
  have h10 := h.nb
  have h8 := h.nl
  have an : ∀ q, q ≠ 4 → (q < 151 + 3 * g 4 ∨ 154 + 3 * g 4 ≤ q) → stG g x y t q = g q := fun q h1 h2 => by
    unfold stG
    rw [updG_n h1, updG_n (by omega), updG_n (by omega), updG_n (by omega)]
  have a4 : stG g x y t 4 = g 4 + 1 := by unfold stG; rw [updG_s]
  refine ⟨⟨?_, ?_, ?_, ?_, ?_⟩, fun i hi => ?_, fun k hk => ?_, fun k k' h1 h2 => ?_, fun k hk => ?_⟩
  · simp (disch := omega) only [an]; exact h.nl
  · simp (disch := omega) only [an]; exact h.day
  · simp (disch := omega) only [an]; exact h.nx
  · simp (disch := omega) only [an]; exact h.nb
  · rw [a4]; omega
  · rw [an 0 (by decide) (by omega)] at hi
    have hsc := h.sc hi
    simp (disch := omega) only [an]
    refine ⟨h.bri hi, h.adm hi, hsc, fun j hj => ?_⟩
    simp (disch := omega) only [an]
    exact h.sen hi hj
  · rw [an 3 (by decide) (by omega)] at hk
    have hb := h.br hk
    simp (disch := omega) only [an]
    exact hb
  · rw [an 3 (by decide) (by omega)] at h2
    simp (disch := omega) only [an]
    exact h.ids h1 h2
  · rw [a4] at hk
    by_cases hkn : k = g 4
    · subst hkn
      have b0 : stG g x y t (151 + 3 * g 4) = x := by unfold stG; rw [updG_n (by omega), updG_n (by omega), updG_n (by omega)]; exact updG_s
      have b1 : stG g x y t (152 + 3 * g 4) = y := by unfold stG; rw [updG_n (by omega), updG_n (by omega), show 152 + 3 * g 4 = 151 + 3 * g 4 + 1 by omega]; exact updG_s
      have b2 : stG g x y t (153 + 3 * g 4) = t := by unfold stG; rw [updG_n (by omega), show 153 + 3 * g 4 = 151 + 3 * g 4 + 2 by omega]; exact updG_s
      rw [b0, b1, b2, an 0 (by decide) (by omega)]
      exact ⟨hx, hy, hxy, ht⟩
    · have hst := h.st (k := k) (by omega)
      simp (disch := omega) only [an]
      exact hst
theorem WF_drop {D p : Nat} {g : Nat → Nat} (h : WF D g) (hp : p < g 4) : WF D (dropG g p) := by
  have h10 := h.nb
  have h8 := h.nl
  have h12 := h.ns
  have an : ∀ q, q ≠ 4 → q < 151 → dropG g p q = g q := fun q h1 h2 => by unfold dropG; rw [if_n h1, if_n (by omega), if_n (by omega)]
  have a4 : dropG g p 4 = g 4 - 1 := by unfold dropG; rw [if_p rfl]
  have key : ∀ c k, k < g 4 - 1 → 151 ≤ c → c < 154 → dropG g p (c + 3 * k) = g (c + 3 * (if p ≤ k then k + 1 else k)) := by
    intro c k hk h3 h4
    unfold dropG
    by_cases hk2 : p ≤ k
    · rw [if_n (by omega), if_p (by omega), if_p hk2]
      congr 1
    · rw [if_n (by omega), if_n (by omega), if_n (by omega), if_n hk2]
  refine ⟨⟨?_, ?_, ?_, ?_, ?_⟩, fun i hi => ?_, fun k hk => ?_, fun k k' h1 h2 => ?_, fun k hk => ?_⟩
  · simp (disch := omega) only [an]; exact h.nl
  · simp (disch := omega) only [an]; exact h.day
  · simp (disch := omega) only [an]; exact h.nx
  · simp (disch := omega) only [an]; exact h.nb
  · rw [a4]; omega
  · rw [an 0 (by decide) (by omega)] at hi
    have hsc := h.sc hi
    simp (disch := omega) only [an]
    refine ⟨h.bri hi, h.adm hi, hsc, fun j hj => ?_⟩
    simp (disch := omega) only [an]
    exact h.sen hi hj
  · rw [an 3 (by decide) (by omega)] at hk
    have hb := h.br hk
    simp (disch := omega) only [an]
    exact hb
  · rw [an 3 (by decide) (by omega)] at h2
    simp (disch := omega) only [an]
    exact h.ids h1 h2
  · rw [a4] at hk
    have hb := h.st (k := if p ≤ k then k + 1 else k) (by split <;> omega)
    rw [key 151 k hk (by decide) (by decide), key 152 k hk (by decide) (by decide), key 153 k hk (by decide) (by decide), an 0 (by decide) (by decide)]
    exact hb
theorem WF_adm {D i v : Nat} {g : Nat → Nat} (h : WF D g) (hi : i < g 0) (hv : v ≤ 2) : WF D (admG g i v) := by
  have h10 := h.nb
  have h8 := h.nl
  have h12 := h.ns
  have an : ∀ q, q ≠ 14 + 11 * i → admG g i v q = g q := fun q h => updG_n h
  refine ⟨⟨?_, ?_, ?_, ?_, ?_⟩, fun j hj => ?_, fun k hk => ?_, fun k k' h1 h2 => ?_, fun k hk => ?_⟩
  · simp (disch := omega) only [an]; exact h.nl
  · simp (disch := omega) only [an]; exact h.day
  · simp (disch := omega) only [an]; exact h.nx
  · simp (disch := omega) only [an]; exact h.nb
  · simp (disch := omega) only [an]; exact h.ns
  · rw [an 0 (by omega)] at hj
    have hsc := h.sc hj
    rw [an (13 + 11 * j) (by omega), an (15 + 11 * j) (by omega)]
    refine ⟨h.bri hj, ?_, hsc, fun k hk => ?_⟩
    · by_cases hji : j = i
      · rw [hji]
        unfold admG
        rw [updG_s]
        exact hv
      · rw [an _ (by omega)]
        exact h.adm hj
    · rw [an _ (by omega)]
      exact h.sen hj hk
  · rw [an 3 (by omega)] at hk
    have hb := h.br hk
    simp (disch := omega) only [an]
    exact hb
  · rw [an 3 (by omega)] at h2
    simp (disch := omega) only [an]
    exact h.ids h1 h2
  · rw [an 4 (by omega)] at hk
    have hst := h.st hk
    simp (disch := omega) only [an]
    exact hst
theorem WF_ends {D i : Nat} {g : Nat → Nat} (h : WF D g) (hi : i < g 0) : WF D (endsG g i) := by
  have h10 := h.nb
  have h8 := h.nl
  have h12 := h.ns
  have hs0 := h.sc hi
  have an : ∀ q, (q < 15 + 11 * i ∨ 24 + 11 * i ≤ q) → endsG g i q = g q := fun q h => by
    unfold endsG
    rw [if_n (by omega), if_n (by omega), if_n (by omega)]
  refine ⟨⟨?_, ?_, ?_, ?_, ?_⟩, fun j hj => ?_, fun k hk => ?_, fun k k' h1 h2 => ?_, fun k hk => ?_⟩
  · simp (disch := omega) only [an]; exact h.nl
  · simp (disch := omega) only [an]; exact h.day
  · simp (disch := omega) only [an]; exact h.nx
  · simp (disch := omega) only [an]; exact h.nb
  · simp (disch := omega) only [an]; exact h.ns
  · rw [an 0 (by omega)] at hj
    have hsc := h.sc hj
    by_cases hji : j = i
    · subst hji
      have a15 : endsG g j (15 + 11 * j) = g (15 + 11 * j) - 1 := by unfold endsG; rw [if_p rfl]
      rw [an _ (by omega), an _ (by omega), a15]
      refine ⟨h.bri hj, h.adm hj, by omega, fun k hk => ?_⟩
      unfold endsG
      rw [if_n (by omega), if_p (by omega)]
      exact h.sen hj (j := k + 1) (by omega)
    · have ak : ∀ q, 13 + 11 * j ≤ q → q < 24 + 11 * j → endsG g i q = g q := fun q h1 h2 => an q (by omega)
      rw [ak _ (by omega) (by omega), ak _ (by omega) (by omega), ak (15 + 11 * j) (by omega) (by omega)]
      refine ⟨h.bri hj, h.adm hj, hsc, fun k hk => ?_⟩
      rw [ak _ (by omega) (by omega)]
      exact h.sen hj hk
  · rw [an 3 (by omega)] at hk
    have hb := h.br hk
    simp (disch := omega) only [an]
    exact hb
  · rw [an 3 (by omega)] at h2
    simp (disch := omega) only [an]
    exact h.ids h1 h2
  · rw [an 4 (by omega)] at hk
    have hst := h.st hk
    simp (disch := omega) only [an]
    exact hst
