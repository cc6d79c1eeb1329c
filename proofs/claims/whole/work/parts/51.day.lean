/-! 51: a day: what becomes of a state -/
section DAY
variable {D : Nat} {d d' d1 : Dt} {g g' G : Nat → Nat} {i j k n p v w t a s : Nat}
theorem updG_comm (h : j ≠ k) : updG (updG g j v) k w = updG (updG g k w) j v := by
  funext q
  unfold updG
  by_cases h1 : q = k
  · rw [if_p h1, if_n (fun t => h (t.symm.trans h1)), if_p h1]
  · rw [if_n h1]
    by_cases h2 : q = j
    · rw [if_p h2, if_p h2]
    · rw [if_n h2, if_n h2, if_n h1]
theorem updG_self : updG g j (g j) = g := by
  funext q
  unfold updG
  by_cases h : q = j
  · rw [if_p h, h]
  · rw [if_n h]
theorem updG_updG : updG (updG g j v) j w = updG g j w := by
  funext q
  unfold updG
  by_cases h : q = j
  · rw [if_p h, if_p h]
  · rw [if_n h, if_n h, if_n h]
/-- the scalars of a state -/
theorem Sim_A (hS : Sim d 2 g) (h8 : g 0 ≤ 8) (hq : ∀ k, 3 ≤ k → k < 26 → d' k = d k) (hg : ∀ q, q = 0 ∨ (2 ≤ q ∧ q < 5) ∨ 13 ≤ q → g' q = g q) (h1 : d' 2 0 = J (g' 1)) (h5 : d' 2 5 = J (g' 5)) (h6 : d' 2 4 = J (g' 6)) (h11 : d' 2 7 = J (g' 11)) (h12 : d' 2 8 = J (g' 12)) (hH : ∀ v, v < 4 → d' 26 v = J (g' (7 + v))) : Sim d' 2 g' := by
  refine Sim_mk ?_ hH (fun i hi => ?_) (fun k hk => ?_) (fun k hk => ?_) (hS.T.cong (hq 25 (by decide) (by decide)))
  · unfold sgA
    rw [hq (2 + 1) (by decide) (by decide), hq (2 + 14) (by decide) (by decide), hq (2 + 20) (by decide) (by decide), hg 0 (by decide), hg 2 (by decide), hg 3 (by decide), hg 4 (by decide)]
    exact ⟨h1, hS.nl, hS.nx, hS.nb, hS.ns, h5, h6, h11, h12⟩
  · rw [hg 0 (by decide)] at hi
    rw [hg (13 + 11 * i) (by omega), hg (14 + 11 * i) (by omega), hg (15 + 11 * i) (by omega), hq (2 + 2) (by decide) (by decide), hq (2 + 3) (by decide) (by decide), hq (2 + 4) (by decide) (by decide)]
    refine ⟨hS.bri hi, hS.adm hi, hS.sc hi, fun j hj => ?_⟩
    rw [hg (16 + 11 * i + j) (by omega)]
    rw [hq (2 + 6 + i) (by omega) (by omega)]
    exact hS.sen hi hj
  · rw [hg 3 (by decide)] at hk
    rw [hg (101 + 5 * k) (by omega), hg (102 + 5 * k) (by omega), hg (103 + 5 * k) (by omega), hg (104 + 5 * k) (by omega), hg (105 + 5 * k) (by omega), hq (2 + 15) (by decide) (by decide), hq (2 + 16) (by decide) (by decide), hq (2 + 17) (by decide) (by decide), hq (2 + 18) (by decide) (by decide), hq (2 + 19) (by decide) (by decide)]
    exact hS.B k hk
  · rw [hg 4 (by decide)] at hk
    rw [hg (151 + 3 * k) (by omega), hg (152 + 3 * k) (by omega), hg (153 + 3 * k) (by omega), hq (2 + 21) (by decide) (by decide), hq (2 + 22) (by decide) (by decide), hq (2 + 23) (by decide) (by decide)]
    exact hS.S k hk
theorem Sim_lan (hS : Sim d 2 g) (h10 : g 3 ≤ 10) (h12 : g 4 ≤ 12) (hq : ∀ k, k < 4 ∨ 16 ≤ k → d' k = d k) (hg : ∀ q, q < 13 ∨ 101 ≤ q → g' q = g q) (hL : sgL d' 2 g') : Sim d' 2 g' := by
  refine Sim_mk ?_ (hS.H.cong (hq _ (by decide)) (fun v hv => hg _ (by omega))) hL (hS.B.cong (fun o h1 h2 => hq _ (by omega)) (hg 3 (by decide)) h10 (fun q h1 h2 => hg q (by omega))) (hS.S.cong (fun o h1 h2 => hq _ (by omega)) (hg 4 (by decide)) h12 (fun q h1 h2 => hg q (by omega))) (hS.T.cong (hq _ (by decide)))
  unfold sgA
  rw [hg 0 (by decide), hg 1 (by decide), hg 2 (by decide), hg 3 (by decide), hg 4 (by decide), hg 5 (by decide), hg 6 (by decide), hg 11 (by decide), hg 12 (by decide), hq 2 (by decide), hq (2 + 1) (by decide), hq (2 + 14) (by decide), hq (2 + 20) (by decide)]
  exact hS.A
theorem WF_lan (h : WF D g) (hg : ∀ q, q < 13 ∨ 101 ≤ q → g' q = g q) (hl : ∀ i, i < g 0 → g' (13 + 11 * i) ≤ 9 ∧ g' (14 + 11 * i) ≤ 2 ∧ g' (15 + 11 * i) ≤ 8 ∧ ∀ j, j < g' (15 + 11 * i) → 1 ≤ g' (16 + 11 * i + j) ∧ g' (16 + 11 * i + j) ≤ 9) : WF D g' := by
  refine ⟨⟨?_, ?_, ?_, ?_, ?_⟩, fun i hi => ?_, fun k hk => ?_, fun k k' h1 h2 => ?_, fun k hk => ?_⟩
  · rw [hg 0 (by decide)]; exact h.nl
  · rw [hg 1 (by decide)]; exact h.day
  · rw [hg 2 (by decide)]; exact h.nx
  · rw [hg 3 (by decide)]; exact h.nb
  · rw [hg 4 (by decide)]; exact h.ns
  · rw [hg 0 (by decide)] at hi
    exact hl i hi
  · rw [hg 3 (by decide)] at hk
    have hb := h.br hk
    simp (disch := omega) only [hg]
    exact hb
  · rw [hg 3 (by decide)] at h2
    simp (disch := omega) only [hg]
    exact h.ids h1 h2
  · rw [hg 4 (by decide)] at hk
    have hst := h.st hk
    simp (disch := omega) only [hg]
    exact hst
/-- one more sentence -/
def senG (g : Nat → Nat) (a s : Nat) : Nat → Nat := updG (updG g (16 + 11 * a + g (15 + 11 * a)) s) (15 + 11 * a) (g (15 + 11 * a) + 1)
theorem senG_n {q : Nat} (h : q ≠ 16 + 11 * a + g (15 + 11 * a)) (h2 : q ≠ 15 + 11 * a) : senG g a s q = g q := by
  unfold senG
  rw [updG_n h2, updG_n h]
theorem senG_c : senG g a s (15 + 11 * a) = g (15 + 11 * a) + 1 := updG_s
theorem senG_v : senG g a s (16 + 11 * a + g (15 + 11 * a)) = s := by
  unfold senG
  rw [updG_n (by omega), updG_s]
theorem WF_sen (h : WF D g) (ha : a < g 0) (h8 : g (15 + 11 * a) < 8) (hs : 1 ≤ s ∧ s ≤ 9) : WF D (senG g a s) := by
  have h0 := h.nl
  refine WF_lan h (fun q hq => senG_n (by omega) (by omega)) (fun i hi => ?_)
  have hsc := h.sc hi
  by_cases q : i = a
  · subst q
    rw [senG_n (by omega) (by omega), senG_n (by omega) (by omega), senG_c]
    refine ⟨h.bri hi, h.adm hi, by omega, fun j hj => ?_⟩
    by_cases q2 : j = g (15 + 11 * i)
    · rw [q2, senG_v]
      exact hs
    · rw [senG_n (by omega) (by omega)]
      exact h.sen hi (by omega)
  · rw [senG_n (by omega) (by omega), senG_n (by omega) (by omega), senG_n (q := 15 + 11 * i) (by omega) (by omega)]
    refine ⟨h.bri hi, h.adm hi, hsc, fun j hj => ?_⟩
    rw [senG_n (by omega) (by omega)]
    exact h.sen hi hj
theorem C_addSentence (hS : Sim d 2 g) (h8 : g 0 ≤ 8) (hscs : ∀ i, i < g 0 → g (15 + 11 * i) ≤ 8) (h10 : g 3 ≤ 10) (h12 : g 4 ≤ 12) (ha : a < g 0) : ok (f_L_addSentence (J a) (J s) d) (fun d' => Sim d' 2 (if g (15 + 11 * a) < 8 then senG g a s else g) ∧ fr2 d d') := by
  have hsc := hscs a ha
  have e6 : d 6 a = J (g (15 + 11 * a)) := hS.sc ha
  unfold f_L_addSentence
  simp only [J_lit]
  rw [J_inb (by omega), gd_d (by omega), J_nat (by omega), e6]
  by_cases q : g (15 + 11 * a) < 8
  · rw [if_n (fun u => by have := (J_le (by omega) (by omega)).mp u; omega), gd_d (by omega), gd_d (by omega), J_inb (by omega), gd_d (by omega), ok_bnd, gd_d (by omega), gd_d (by omega), ok_bnd, ok_s, J_nat (by omega), wr_k (show 6 ≠ 8 + a by omega), e6, J_add, if_p q]
    refine ⟨Sim_lan hS h10 h12 (fun k hk => by rw [wr_k (by omega), wr_k (by omega)]) (fun k hk => senG_n (by omega) (by omega)) (fun i hi => ?_), fun k hk => by rw [wr_k (by omega), wr_k (by omega)]⟩
    rw [senG_n (by omega) (by omega)] at hi
    have hsi := hscs i hi
    rw [senG_n (q := 13 + 11 * i) (by omega) (by omega), senG_n (q := 14 + 11 * i) (by omega) (by omega), wr_k (show 2 + 2 ≠ 6 by decide), wr_k (show 2 + 2 ≠ 8 + a by omega), wr_k (show 2 + 3 ≠ 6 by decide), wr_k (show 2 + 3 ≠ 8 + a by omega)]
    refine ⟨hS.bri hi, hS.adm hi, ?_, fun j hj => ?_⟩
    · show wr _ 6 a _ 6 i = _
      rw [wr_i]
      by_cases e : i = a
      · rw [if_p e, e, senG_c]
      · rw [if_n e, wr_k (by omega), senG_n (by omega) (by omega)]
        exact hS.sc hi
    · rw [wr_k (show 2 + 6 + i ≠ 6 by omega), show 2 + 6 + i = 8 + i by omega]
      by_cases e : i = a
      · subst e
        rw [wr_i]
        rw [senG_c] at hj
        by_cases e2 : j = g (15 + 11 * i)
        · rw [if_p e2, e2, senG_v]
        · rw [if_n e2, senG_n (by omega) (by omega), show 8 + i = 2 + 6 + i by omega]
          exact hS.sen hi (by omega)
      · rw [senG_n (by omega) (by omega)] at hj
        rw [wr_k (by omega), senG_n (by omega) (by omega), show 8 + i = 2 + 6 + i by omega]
        exact hS.sen hi hj
  · rw [if_p ((J_le (by omega) (by omega)).mpr (by omega)), ok_s, if_n q]
    exact ⟨hS, fun _ _ => rfl⟩
/-- a hearing of the brief at p, verdict v -/
def hg1 (g : Nat → Nat) (v : Nat) : Nat → Nat := updG g (7 + v) (g (7 + v) + 1)
def hg2 (g : Nat → Nat) (p v : Nat) : Nat → Nat := if v = 0 ∧ g (15 + 11 * g (102 + 5 * p)) < 8 then senG (hg1 g v) (g (102 + 5 * p)) (g (105 + 5 * p)) else hg1 g v
def hg3 (g : Nat → Nat) (p v : Nat) : Nat → Nat := if v = 3 then updG (hg2 g p v) 5 (g 5 + g (104 + 5 * p) / 2) else hg2 g p v
def hearG (g : Nat → Nat) (p v : Nat) : Nat → Nat := goesG (hg3 g p v) p
theorem hg1_n {q : Nat} (h : q < 7 ∨ 11 ≤ q) (hv : v < 4) : hg1 g v q = g q := updG_n (by omega)
theorem goes_1 : goesG (updG g 1 t) p = updG (goesG g p) 1 t := by
  funext q
  by_cases h : q = 1
  · subst h
    rw [updG_s]
    unfold goesG
    rw [if_n (by decide), if_n (by omega), if_n (by omega), updG_s]
  · rw [updG_n h]
    unfold goesG
    rw [updG_n (show 3 ≠ 1 by decide), updG_n (show q + 5 ≠ 1 by omega), updG_n h]
theorem sen_1 : senG (updG g 1 t) a s = updG (senG g a s) 1 t := by
  unfold senG
  rw [updG_n (show 15 + 11 * a ≠ 1 by omega), updG_comm (show 1 ≠ 16 + 11 * a + g (15 + 11 * a) by omega), updG_comm (show 1 ≠ 15 + 11 * a by omega)]
theorem hear_1 (hv : v < 4) : hearG (updG g 1 t) p v = updG (hearG g p v) 1 t := by
  have e1 : hg1 (updG g 1 t) v = updG (hg1 g v) 1 t := by
    unfold hg1
    rw [updG_n (show 7 + v ≠ 1 by omega), updG_comm (by omega)]
  have e2 : hg2 (updG g 1 t) p v = updG (hg2 g p v) 1 t := by
    unfold hg2
    rw [e1, updG_n (show 102 + 5 * p ≠ 1 by omega), updG_n (show 15 + 11 * g (102 + 5 * p) ≠ 1 by omega), updG_n (show 105 + 5 * p ≠ 1 by omega), sen_1]
    by_cases q : v = 0 ∧ g (15 + 11 * g (102 + 5 * p)) < 8
    · rw [if_p q, if_p q]
    · rw [if_n q, if_n q]
  have e3 : hg3 (updG g 1 t) p v = updG (hg3 g p v) 1 t := by
    unfold hg3
    rw [e2, updG_n (show 5 ≠ 1 by decide), updG_n (show 104 + 5 * p ≠ 1 by omega), updG_comm (show 1 ≠ 5 by decide)]
    by_cases q : v = 3
    · rw [if_p q, if_p q]
    · rw [if_n q, if_n q]
  unfold hearG
  rw [e3, goes_1]
theorem WF_hg3 (h : WF D g) (hp : p < g 3) (hv : v < 4) : WF D (hg3 g p v) ∧ hg3 g p v 3 = g 3 ∧ hg3 g p v 1 = g 1 := by
  have hb := h.br hp
  have w1 : WF D (hg1 g v) := WF_sum h (fun q hq => hg1_n (by omega) hv)
  have w2 : WF D (hg2 g p v) ∧ hg2 g p v 3 = g 3 ∧ hg2 g p v 1 = g 1 := by
    unfold hg2
    by_cases q : v = 0 ∧ g (15 + 11 * g (102 + 5 * p)) < 8
    · rw [if_p q]
      refine ⟨WF_sen w1 (by rw [hg1_n (by omega) hv]; exact hb.2.1) (by rw [hg1_n (by omega) hv]; exact q.2) hb.2.2.2.2.2.2, ?_, ?_⟩
      · rw [senG_n (by omega) (by omega), hg1_n (by omega) hv]
      · rw [senG_n (by omega) (by omega), hg1_n (by omega) hv]
    · rw [if_n q]
      exact ⟨w1, hg1_n (by omega) hv, hg1_n (by omega) hv⟩
  unfold hg3
  by_cases q : v = 3
  · rw [if_p q]
    exact ⟨WF_sum w2.1 (fun q hq => updG_n (by omega)), by rw [updG_n (by decide)]; exact w2.2.1, by rw [updG_n (by decide)]; exact w2.2.2⟩
  · rw [if_n q]
    exact w2
theorem goes_lo {q : Nat} (h : q ≠ 3) (h2 : q < 101) : goesG g p q = g q := by
  unfold goesG
  rw [if_n h, if_n (by omega), if_n (by omega)]
theorem WF_hear (h : WF D g) (hp : p < g 3) (hv : v < 4) : WF D (hearG g p v) ∧ hearG g p v 1 = g 1 := by
  obtain ⟨w1, w2, w3⟩ := WF_hg3 h hp hv
  refine ⟨WF_goes w1 (by rw [w2]; exact hp), ?_⟩
  unfold hearG
  rw [goes_lo (by decide) (by decide), w3]
/-- the brief at n lapses -/
def lpG (g : Nat → Nat) (n : Nat) : Nat → Nat := goesG (updG (updG g 5 (g 5 + g (104 + 5 * n))) 11 (g 11 + 1)) n
def lpN : Nat → (Nat → Nat) → (Nat → Nat)
  | 0, g => g
  | n + 1, g => lpN n (if g (103 + 5 * n) ≤ g 1 then lpG g n else g)
theorem lp_1 : lpG (updG g 1 t) n = updG (lpG g n) 1 t := by
  unfold lpG
  rw [updG_n (show 5 ≠ 1 by decide), updG_n (show 104 + 5 * n ≠ 1 by omega), updG_n (show 11 ≠ 1 by decide), updG_comm (show 1 ≠ 5 by decide), updG_comm (show 1 ≠ 11 by decide), goes_1]
theorem WF_lp (h : WF D g) (hn : n < g 3) : WF D (lpG g n) ∧ lpG g n 1 = g 1 ∧ lpG g n 3 = g 3 - 1 := by
  refine ⟨WF_goes (WF_sum h (fun q hq => by rw [updG_n (by omega), updG_n (by omega)])) (by rw [updG_n (by decide), updG_n (by decide)]; exact hn), ?_, ?_⟩
  · unfold lpG
    rw [goes_lo (by decide) (by decide), updG_n (by decide), updG_n (by decide)]
  · unfold lpG goesG
    rw [if_p rfl, updG_n (by decide), updG_n (by decide)]
theorem WF_day (h : WF D g) (hl : ∀ k, k < g 3 → g 1 + 1 < g (103 + 5 * k)) : WF (D + 1) (updG g 1 (g 1 + 1)) := by
  have hg : ∀ q, q ≠ 1 → updG g 1 (g 1 + 1) q = g q := fun q hq => updG_n hq
  refine ⟨⟨?_, ?_, ?_, ?_, ?_⟩, fun i hi => ?_, fun k hk => ?_, fun k k' h1 h2 => ?_, fun k hk => ?_⟩
  · rw [hg 0 (by decide)]; exact h.nl
  · rw [updG_s]; have := h.day; omega
  · rw [hg 2 (by decide)]; have := h.nx; omega
  · rw [hg 3 (by decide)]; exact h.nb
  · rw [hg 4 (by decide)]; exact h.ns
  · rw [hg 0 (by decide)] at hi
    rw [hg (13 + 11 * i) (by omega), hg (14 + 11 * i) (by omega), hg (15 + 11 * i) (by omega)]
    refine ⟨h.bri hi, h.adm hi, h.sc hi, fun j hj => ?_⟩
    rw [hg _ (by omega)]
    exact h.sen hi hj
  · rw [hg 3 (by decide)] at hk
    have hb := h.br hk
    have := hl k hk
    rw [updG_s, hg 2 (by decide), hg 0 (by decide), hg (101 + 5 * k) (by omega), hg (102 + 5 * k) (by omega), hg (103 + 5 * k) (by omega), hg (104 + 5 * k) (by omega), hg (105 + 5 * k) (by omega)]
    omega
  · rw [hg 3 (by decide)] at h2
    rw [hg (101 + 5 * k) (by omega), hg (101 + 5 * k') (by omega)]
    exact h.ids h1 h2
  · rw [hg 4 (by decide)] at hk
    rw [hg 0 (by decide), hg (151 + 3 * k) (by omega), hg (152 + 3 * k) (by omega), hg (153 + 3 * k) (by omega)]
    exact h.st hk
theorem lpN_WF : ∀ n (G : Nat → Nat), WF D G → n ≤ G 3 → (∀ k, n ≤ k → k < G 3 → G 1 + 1 < G (103 + 5 * k)) → WF (D + 1) (lpN n (updG G 1 (G 1 + 1))) := by
  intro n
  induction n with
  | zero =>
    intro G hw _ hl
    exact WF_day hw (fun k hk => hl k (Nat.zero_le _) hk)
  | succ n ih =>
    intro G hw hn hl
    show WF (D + 1) (lpN n (if updG G 1 (G 1 + 1) (103 + 5 * n) ≤ updG G 1 (G 1 + 1) 1 then lpG (updG G 1 (G 1 + 1)) n else updG G 1 (G 1 + 1)))
    rw [updG_s, updG_n (show 103 + 5 * n ≠ 1 by omega)]
    by_cases q : G (103 + 5 * n) ≤ G 1 + 1
    · obtain ⟨w1, w2, w3⟩ := WF_lp hw (show n < G 3 by omega)
      rw [if_p q, lp_1]
      have := ih (lpG G n) w1 (by omega) (fun k h1 h2 => by
        rw [w2]
        rw [w3] at h2
        have e : lpG G n (103 + 5 * k) = G (103 + 5 * (k + 1)) := by
          unfold lpG goesG
          have e3 : updG (updG G 5 (G 5 + G (104 + 5 * n))) 11 (G 11 + 1) 3 = G 3 := by rw [updG_n (by decide), updG_n (by decide)]
          rw [e3, if_n (by omega), if_p (by omega), updG_n (by omega), updG_n (by omega)]
          congr 1
        rw [e]
        exact hl (k + 1) (by omega) (by omega))
      rw [w2] at this
      exact this
    · rw [if_n q]
      refine ih G hw (by omega) (fun k h1 h2 => ?_)
      rcases (by omega : k = n ∨ n + 1 ≤ k) with u | u
      · rw [u]; omega
      · exact hl k u h2
/-- lantern i lives a day -/
def svG (g : Nat → Nat) (i : Nat) : Nat → Nat := if g (15 + 11 * i) = 0 then updG g (13 + 11 * i) (min (g (13 + 11 * i) + 1) 9) else if g (16 + 11 * i) = 1 then endsG (updG g (13 + 11 * i) (g (13 + 11 * i) - 1)) i else updG (updG g (13 + 11 * i) (g (13 + 11 * i) - 1)) (16 + 11 * i) (g (16 + 11 * i) - 1)
def svN (g : Nat → Nat) : Nat → (Nat → Nat)
  | 0 => g
  | n + 1 => svG (svN g n) n
def scN (g : Nat → Nat) : Nat → Nat
  | 0 => 0
  | n + 1 => scN g n + (if svN g n (15 + 11 * n) = 0 then 0 else 1)
theorem WF_bri (h : WF D g) (hi : i < g 0) (hv : v ≤ 9) : WF D (updG g (13 + 11 * i) v) := by
  have h0 := h.nl
  refine WF_lan h (fun q hq => updG_n (by omega)) (fun j hj => ?_)
  rw [updG_n (show 14 + 11 * j ≠ 13 + 11 * i by omega), updG_n (show 15 + 11 * j ≠ 13 + 11 * i by omega)]
  refine ⟨?_, h.adm hj, h.sc hj, fun k hk => ?_⟩
  · by_cases q : j = i
    · rw [q, updG_s]; exact hv
    · rw [updG_n (by omega)]; exact h.bri hj
  · have hsc := h.sc hj
    rw [updG_n (by omega)]
    exact h.sen hj hk
theorem WF_sv (h : WF D g) (hi : i < g 0) : WF D (svG g i) := by
  have h0 := h.nl
  have hb := h.bri hi
  unfold svG
  by_cases q1 : g (15 + 11 * i) = 0
  · rw [if_p q1]
    exact WF_bri h hi (by omega)
  · rw [if_n q1]
    have w := WF_bri (v := g (13 + 11 * i) - 1) h hi (by omega)
    by_cases q2 : g (16 + 11 * i) = 1
    · rw [if_p q2]
      exact WF_ends w (by rw [updG_n (by omega)]; exact hi)
    · rw [if_n q2]
      refine WF_lan w (fun q hq => updG_n (by omega)) (fun j hj => ?_)
      rw [updG_n (show 0 ≠ 13 + 11 * i by omega)] at hj
      have hj2 : j < updG g (13 + 11 * i) (g (13 + 11 * i) - 1) 0 := by rw [updG_n (by omega)]; exact hj
      have hsc := w.sc hj2
      have h16 := h.sen hi (j := 0) (by omega)
      rw [Nat.add_zero] at h16
      have hsi := h.sc hi
      rw [updG_n (show 14 + 11 * j ≠ 16 + 11 * i by omega), updG_n (show 15 + 11 * j ≠ 16 + 11 * i by omega), updG_n (show 13 + 11 * j ≠ 16 + 11 * i by omega)]
      refine ⟨w.bri hj2, w.adm hj2, hsc, fun k hk => ?_⟩
      by_cases e : 16 + 11 * j + k = 16 + 11 * i
      · rw [e, updG_s]
        omega
      · rw [updG_n e]
        exact w.sen hj2 hk
theorem ends_lo {q : Nat} (h : q < 15 + 11 * i ∨ 24 + 11 * i ≤ q) (h8 : g (15 + 11 * i) ≤ 8) : endsG g i q = g q := by
  unfold endsG
  rw [if_n (by omega), if_n (by omega), if_n (by omega)]
theorem sv_lo {q : Nat} (h : WF D g) (hi : i < g 0) (hq : q < 13 ∨ 101 ≤ q) : svG g i q = g q := by
  have h0 := h.nl
  have hsc := h.sc hi
  unfold svG
  by_cases q1 : g (15 + 11 * i) = 0
  · rw [if_p q1, updG_n (by omega)]
  · rw [if_n q1]
    by_cases q2 : g (16 + 11 * i) = 1
    · rw [if_p q2, ends_lo (by omega) (by rw [updG_n (by omega)]; exact hsc), updG_n (by omega)]
    · rw [if_n q2, updG_n (by omega), updG_n (by omega)]
theorem svN_WF (h : WF D g) : ∀ n, n ≤ g 0 → WF D (svN g n) ∧ ∀ q, q < 13 ∨ 101 ≤ q → svN g n q = g q := by
  intro n
  induction n with
  | zero => intro _; exact ⟨h, fun _ _ => rfl⟩
  | succ n ih =>
    intro hn
    obtain ⟨i1, i2⟩ := ih (by omega)
    have e0 : svN g n 0 = g 0 := i2 0 (by decide)
    refine ⟨WF_sv i1 (by omega), fun q hq => ?_⟩
    show svG (svN g n) n q = g q
    rw [sv_lo i1 (by omega) hq, i2 q hq]
theorem scN_le : ∀ n, scN g n ≤ n := by
  intro n
  induction n with
  | zero => exact Nat.le_refl _
  | succ n ih =>
    show scN g n + (if svN g n (15 + 11 * n) = 0 then 0 else 1) ≤ n + 1
    by_cases q : svN g n (15 + 11 * n) = 0
    · rw [if_p q]; omega
    · rw [if_n q]; omega
/-- the verdict on lantern x: as a number, as a sign -/
def vrd (g : Nat → Nat) (x : Nat) : Nat := vdi (anyN (r1 g x) (2 ^ g 0)) (anyN (r0 g x) (2 ^ g 0))
def vrc (g : Nat → Nat) (x : Nat) : Nat := vdc (anyN (r1 g x) (2 ^ g 0)) (anyN (r0 g x) (2 ^ g 0))
theorem vrd_lt : vrd g i < 4 := by
  have := vdi_le (c1 := anyN (r1 g i) (2 ^ g 0)) (c0 := anyN (r0 g i) (2 ^ g 0))
  unfold vrd
  omega
/-- the brief that is heard first -/
def hfO (g : Nat → Nat) : Nat → Nat
  | 0 => 0
  | k + 1 => if (plT g).testBit k = true ∧ hpl g k = 0 then k else hfO g k
theorem hfO_of (hw : WF D g) (hi : i < g 3) (hT : (plT g).testBit i = true) (h0 : hpl g i = 0) : ∀ k, k ≤ g 3 → i < k → hfO g k = i := by
  intro k
  induction k with
  | zero => intro _ h; omega
  | succ k ih =>
    intro h1 h2
    show (if (plT g).testBit k = true ∧ hpl g k = 0 then k else hfO g k) = i
    by_cases q : (plT g).testBit k = true ∧ hpl g k = 0
    · rw [if_p q]
      exact hpl_inj hw (by omega) hi q.1 hT (q.2.trans h0.symm)
    · rw [if_n q]
      refine ih (by omega) ?_
      rcases (by omega : i < k ∨ i = k) with u | u
      · exact u
      · rw [← u] at q
        exact absurd ⟨hT, h0⟩ q
/-- the state after the hearing of the day, before briefs lapse -/
def hrG (g : Nat → Nat) : Nat → Nat := if plN g = 0 then updG g 1 (g 1 + 1) else hearG (updG g 1 (g 1 + 1)) (hfO g (g 3)) (vrd (updG g 1 (g 1 + 1)) (g (102 + 5 * hfO g (g 3))))
def lvG (g : Nat → Nat) : Nat → Nat := lpN (hrG g 3) (hrG g)
def dayR (g : Nat → Nat) : Nat → Nat := updG (svN (lvG g) (lvG g 0)) 12 (lvG g 12 + scN (lvG g) (lvG g 0))
theorem first_ex (hw : WF D g) (h : plN g ≠ 0) : hfO g (g 3) < g 3 ∧ (plT g).testBit (hfO g (g 3)) = true ∧ hpl g (hfO g (g 3)) = 0 := by
  obtain ⟨i, i1, i2, i3⟩ := hpl_ex (g := g) (r := 0) hw (by omega)
  rw [hfO_of hw i1 i2 i3 (g 3) (Nat.le_refl _) i1]
  exact ⟨i1, i2, i3⟩
theorem hrG_eq (hw : WF D g) : ∃ G, hrG g = updG G 1 (G 1 + 1) ∧ WF D G := by
  unfold hrG
  by_cases q : plN g = 0
  · rw [if_p q]
    exact ⟨g, rfl, hw⟩
  · obtain ⟨f1, f2, f3⟩ := first_ex hw q
    obtain ⟨w1, w2⟩ := WF_hear (v := vrd (updG g 1 (g 1 + 1)) (g (102 + 5 * hfO g (g 3)))) hw f1 vrd_lt
    rw [if_n q, hear_1 vrd_lt]
    exact ⟨_, by rw [w2], w1⟩
theorem WF_lv (hw : WF D g) : WF (D + 1) (lvG g) := by
  obtain ⟨G, e, w⟩ := hrG_eq hw
  unfold lvG
  rw [e]
  have e3 : updG G 1 (G 1 + 1) 3 = G 3 := updG_n (by decide)
  rw [e3]
  exact lpN_WF (G 3) G w (Nat.le_refl _) (fun k h1 h2 => by omega)
theorem WF_dayR (hw : WF D g) : WF (D + 1) (dayR g) := by
  have w := WF_lv hw
  exact WF_sum (svN_WF w (lvG g 0) (Nat.le_refl _)).1 (fun q hq => updG_n (by omega))
def dRN (g : Nat → Nat) : Nat → (Nat → Nat)
  | 0 => g
  | n + 1 => dayR (dRN g n)
def hcN (g : Nat → Nat) : Nat → Nat
  | 0 => 0
  | n + 1 => hcN g n + (if plN (dRN g n) = 0 then 0 else 1)
theorem WF_dRN (hw : WF D g) : ∀ n, WF (D + n) (dRN g n) := by
  intro n
  induction n with
  | zero => exact hw
  | succ n ih => exact WF_dayR ih
theorem hcN_le : ∀ n, hcN g n ≤ n := by
  intro n
  induction n with
  | zero => exact Nat.le_refl _
  | succ n ih =>
    show hcN g n + (if plN (dRN g n) = 0 then 0 else 1) ≤ n + 1
    by_cases q : plN (dRN g n) = 0
    · rw [if_p q]; omega
    · rw [if_n q]; omega
end DAY
