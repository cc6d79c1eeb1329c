/-! 52: a day: the class -/
section DAYC
variable {D : Nat} {d d' d1 : Dt} {g g' G : Nat → Nat} {i j k n p v w t a s x : Nat}
/-- everything but the day against the briefs -/
def WX (g : Nat → Nat) : Prop := ∃ D t, D < 100000 ∧ WF D (updG g 1 t) ∧ g 1 ≤ D + 1
theorem WX.nl (h : WX g) : g 0 ≤ 8 := by
  obtain ⟨D, t, _, h2, _⟩ := h
  exact h2.nl
theorem WX.nb (h : WX g) : g 3 ≤ 10 := by
  obtain ⟨D, t, _, h2, _⟩ := h
  exact h2.nb
theorem WX.ns (h : WX g) : g 4 ≤ 12 := by
  obtain ⟨D, t, _, h2, _⟩ := h
  exact h2.ns
theorem WX.sc (h : WX g) : ∀ i, i < g 0 → g (15 + 11 * i) ≤ 8 := by
  obtain ⟨D, t, _, h2, _⟩ := h
  intro i hi
  have := h2.sc (i := i) hi
  rwa [updG_n (by omega)] at this
theorem WX.br (h : WX g) (hk : k < g 3) : g (102 + 5 * k) < g 0 ∧ g (103 + 5 * k) ≤ 100012 ∧ g (104 + 5 * k) ≤ 50 := by
  obtain ⟨D, t, h1, h2, _⟩ := h
  have hb := h2.br (k := k) hk
  have hd := h2.day
  rw [updG_s] at hb hd
  rw [updG_n (show 102 + 5 * k ≠ 1 by omega), updG_n (show 103 + 5 * k ≠ 1 by omega), updG_n (show 104 + 5 * k ≠ 1 by omega), updG_n (show 0 ≠ 1 by decide)] at hb
  omega
theorem WX.day (h : WX g) : g 1 ≤ 100000 := by
  obtain ⟨D, t, h1, h2, h3⟩ := h
  omega
theorem WX.wg (h : WX g) : WG g := by
  refine ⟨⟨h.nl, h.ns⟩, trivial, trivial, ?_, ?_⟩
  · obtain ⟨D, t, _, h2, _⟩ := h
    intro i hi
    have := h2.adm (i := i) hi
    rwa [updG_n (by omega)] at this
  · obtain ⟨D, t, _, h2, _⟩ := h
    intro k hk
    have := h2.st (k := k) hk
    rwa [updG_n (show 151 + 3 * k ≠ 1 by omega), updG_n (show 152 + 3 * k ≠ 1 by omega), updG_n (show 153 + 3 * k ≠ 1 by omega), updG_n (show 0 ≠ 1 by decide)] at this
theorem WX_of (h : WF D G) (hD : D < 100000) : WX (updG G 1 (G 1 + 1)) :=
  ⟨D, G 1, hD, by rw [updG_updG, updG_self]; exact h, by rw [updG_s]; have := h.day; omega⟩
theorem WX_lp (h : WX g) (hn : n < g 3) : WX (lpG g n) ∧ lpG g n 3 = g 3 - 1 := by
  obtain ⟨D, t, h1, h2, h3⟩ := h
  obtain ⟨w1, w2, w3⟩ := WF_lp (n := n) h2 hn
  rw [lp_1] at w1 w3
  have e1 : lpG g n 1 = g 1 := by
    unfold lpG
    rw [goes_lo (by decide) (by decide), updG_n (by decide), updG_n (by decide)]
  refine ⟨⟨D, t, h1, w1, by rw [e1]; exact h3⟩, ?_⟩
  rw [updG_n (by decide), updG_n (by decide)] at w3
  exact w3
theorem Sim_1 (hS : Sim d 2 g) (h8 : g 0 ≤ 8) : Sim (wr d 2 0 (J v)) 2 (updG g 1 v) :=
  Sim_A hS h8 (fun k h1 _ => wr_k (by omega)) (fun q hq => updG_n (by omega)) (by rw [wr_s, updG_s]) (by rw [wr_j (by decide), updG_n (by decide)]; exact hS.pd) (by rw [wr_j (by decide), updG_n (by decide)]; exact hS.fs) (by rw [wr_j (by decide), updG_n (by decide)]; exact hS.lp) (by rw [wr_j (by decide), updG_n (by decide)]; exact hS.sd) (fun u hu => by rw [wr_k (by decide), updG_n (by omega)]; exact hS.hd hu)
theorem Sim_11 (hS : Sim d 2 g) (h8 : g 0 ≤ 8) : Sim (wr d 2 7 (J v)) 2 (updG g 11 v) :=
  Sim_A hS h8 (fun k h1 _ => wr_k (by omega)) (fun q hq => updG_n (by omega)) (by rw [wr_j (by decide), updG_n (by decide)]; exact hS.day) (by rw [wr_j (by decide), updG_n (by decide)]; exact hS.pd) (by rw [wr_j (by decide), updG_n (by decide)]; exact hS.fs) (by rw [wr_s, updG_s]) (by rw [wr_j (by decide), updG_n (by decide)]; exact hS.sd) (fun u hu => by rw [wr_k (by decide), updG_n (by omega)]; exact hS.hd hu)
theorem Sim_12 (hS : Sim d 2 g) (h8 : g 0 ≤ 8) : Sim (wr d 2 8 (J v)) 2 (updG g 12 v) :=
  Sim_A hS h8 (fun k h1 _ => wr_k (by omega)) (fun q hq => updG_n (by omega)) (by rw [wr_j (by decide), updG_n (by decide)]; exact hS.day) (by rw [wr_j (by decide), updG_n (by decide)]; exact hS.pd) (by rw [wr_j (by decide), updG_n (by decide)]; exact hS.fs) (by rw [wr_j (by decide), updG_n (by decide)]; exact hS.lp) (by rw [wr_s, updG_s]) (fun u hu => by rw [wr_k (by decide), updG_n (by omega)]; exact hS.hd hu)
theorem Sim_hg1 (hS : Sim d 2 g) (h8 : g 0 ≤ 8) (hv : v < 4) : Sim (wr d 26 v (J (g (7 + v) + 1))) 2 (hg1 g v) :=
  Sim_A hS h8 (fun k h1 h2 => wr_k (by omega)) (fun q hq => hg1_n (by omega) hv) (by rw [wr_k (by decide), hg1_n (by decide) hv]; exact hS.day) (by rw [wr_k (by decide), hg1_n (by decide) hv]; exact hS.pd) (by rw [wr_k (by decide), hg1_n (by decide) hv]; exact hS.fs) (by rw [wr_k (by decide), hg1_n (by decide) hv]; exact hS.lp) (by rw [wr_k (by decide), hg1_n (by decide) hv]; exact hS.sd) (fun u hu => by
    rw [wr_i]
    by_cases q : u = v
    · rw [if_p q, q]
      unfold hg1
      rw [updG_s]
    · rw [if_n q]
      unfold hg1
      rw [updG_n (by omega)]
      exact hS.hd hu)
theorem idx11 : f_JS_indexOf1 11 (J 103) (fun _ _ => 0) = some (J 0) ∧ f_JS_indexOf1 11 (J 105) (fun _ _ => 0) = some (J 1) ∧ f_JS_indexOf1 11 (J 117) (fun _ _ => 0) = some (J 2) ∧ f_JS_indexOf1 11 (J 109) (fun _ _ => 0) = some (J 3) := by decide +kernel
theorem idx_vd : f_JS_indexOf1 11 (J (vrc g x)) d = some (J (vrd g x)) := by
  unfold vrc vrd
  cases anyN (r1 g x) (2 ^ g 0) <;> cases anyN (r0 g x) (2 ^ g 0)
  · exact idx11.2.2.2
  · exact idx11.2.1
  · exact idx11.1
  · exact idx11.2.2.1
theorem vd_0 : vrc g x = 103 ↔ vrd g x = 0 := by
  unfold vrc vrd
  cases anyN (r1 g x) (2 ^ g 0) <;> cases anyN (r0 g x) (2 ^ g 0) <;> decide
theorem vd_3 : vrc g x = 109 ↔ vrd g x = 3 := by
  unfold vrc vrd
  cases anyN (r1 g x) (2 ^ g 0) <;> cases anyN (r0 g x) (2 ^ g 0) <;> decide
theorem vrc_lt : vrc g x < 200 := by
  unfold vrc
  cases anyN (r1 g x) (2 ^ g 0) <;> cases anyN (r0 g x) (2 ^ g 0) <;> decide
theorem C_verd (hS : Sim d 2 g) (hw : WG g) (hx : x < g 0) : ok (f_G_find (-J 1) d) (fun d' => (∀ k, k < 281 ∨ 286 ≤ k → d' k = d k) ∧ f_G_verdictOn (J x) d' = some (J (vrc g x))) := by
  refine ok_mono (G_find hS hw) (fun d3 h3 => ?_)
  obtain ⟨⟨l, s, c, hF⟩, hfr⟩ := h3
  have e1 : anyN (r1 g x) (2 ^ g 0) = mayB g l s c (l x) (true ^^ (s x == 1)) := rv_eq hw (seen_all hw.ns) hF.2.1 hx
  have e0 : anyN (r0 g x) (2 ^ g 0) = mayB g l s c (l x) (false ^^ (s x == 1)) := rv_eq hw (seen_all hw.ns) hF.2.1 hx
  refine ⟨hfr, ?_⟩
  rw [G_verdictOn hF hx]
  unfold vrc
  rw [e1, e0]
theorem C_close (hS : Sim d 2 g) (hw : WX g) (hp : p < g 3) (hv : v < 4) (c : Nat) (hc : c < 200) (h0 : c = 103 ↔ v = 0) (h3 : c = 109 ↔ v = 3) (hi : f_JS_indexOf1 11 (J c) d = some (J v)) : ok (f_S_closeHearing (J p) (J c) d) (fun d' => Sim d' 2 (hearG g p v) ∧ fr2 d d') := by
  have h8 := hw.nl
  have h10 := hw.nb
  have h12 := hw.ns
  have hb := hw.br hp
  have eH : d 26 v = J (g (7 + v)) := hS.hd hv
  have S1 : Sim (wr d 26 v (J (g (7 + v) + 1))) 2 (hg1 g v) := Sim_hg1 hS h8 hv
  have tail : ∀ d2, Sim d2 2 (hg3 g p v) → fr2 d d2 → ok (f_S_closeHearing_87 (J p) d2) (fun d' => Sim d' 2 (hearG g p v) ∧ fr2 d d') := fun d2 hS2 hf2 => by
    have en : ∀ q, q < 5 → hg3 g p v q = g q := fun q hq => by
      have e2 : hg2 g p v q = g q := by
        unfold hg2
        by_cases u : v = 0 ∧ g (15 + 11 * g (102 + 5 * p)) < 8
        · rw [if_p u, senG_n (by omega) (by omega), hg1_n (by omega) hv]
        · rw [if_n u, hg1_n (by omega) hv]
      unfold hg3
      by_cases u : v = 3
      · rw [if_p u, updG_n (by omega), e2]
      · rw [if_n u, e2]
    unfold f_S_closeHearing_87
    rw [ok_ob1]
    refine ok_mono (C_B_remove hS2 (by rw [en 0 (by decide)]; exact h8) (fun i hi => ?_) (by rw [en 3 (by decide)]; exact h10) (by rw [en 4 (by decide)]; exact h12) (by rw [en 3 (by decide)]; exact hp)) (fun d3 h => ?_)
    · rw [en 0 (by decide)] at hi
      have hsi := hw.sc i hi
      have e1 : hg3 g p v (15 + 11 * i) = hg2 g p v (15 + 11 * i) := by
        unfold hg3
        by_cases u : v = 3
        · rw [if_p u, updG_n (by omega)]
        · rw [if_n u]
      rw [e1]
      unfold hg2
      by_cases u : v = 0 ∧ g (15 + 11 * g (102 + 5 * p)) < 8
      · rw [if_p u]
        have e3 : hg1 g v (15 + 11 * g (102 + 5 * p)) = g (15 + 11 * g (102 + 5 * p)) := hg1_n (by omega) hv
        by_cases u2 : i = g (102 + 5 * p)
        · rw [u2, senG_c, e3]; omega
        · rw [senG_n (by rw [e3]; omega) (by omega), hg1_n (by omega) hv]; exact hsi
      · rw [if_n u, hg1_n (by omega) hv]; exact hsi
    · rw [ok_s]
      exact ⟨h.1, fun k hk => (h.2 k hk).trans (hf2 k hk)⟩
  have mid : ∀ d2, Sim d2 2 (hg2 g p v) → fr2 d d2 → ok (f_S_closeHearing_61 (J p) (J c) d2) (fun d' => Sim d' 2 (hearG g p v) ∧ fr2 d d') := fun d2 hS2 hf2 => by
    have e5 : hg2 g p v 5 = g 5 := by
      unfold hg2
      by_cases u : v = 0 ∧ g (15 + 11 * g (102 + 5 * p)) < 8
      · rw [if_p u, senG_n (by omega) (by omega), hg1_n (by decide) hv]
      · rw [if_n u, hg1_n (by decide) hv]
    have e3 : hg2 g p v 3 = g 3 := by
      unfold hg2
      by_cases u : v = 0 ∧ g (15 + 11 * g (102 + 5 * p)) < 8
      · rw [if_p u, senG_n (by omega) (by omega), hg1_n (by decide) hv]
      · rw [if_n u, hg1_n (by decide) hv]
    have e104 : v = 3 → hg2 g p v (104 + 5 * p) = g (104 + 5 * p) := fun u => by
      unfold hg2
      rw [if_n (fun t => by omega), hg1_n (by omega) hv]
    unfold f_S_closeHearing_61
    simp only [J_lit]
    by_cases u : c = 109
    · have hv3 := h3.mp u
      have c5 : d2 2 5 = J (g 5) := by rw [← e5]; exact hS2.pd
      have c20 : d2 20 p = J (g (104 + 5 * p)) := by rw [← e104 hv3]; exact hS2.bfe (by rw [e3]; exact hp)
      rw [if_p (by rw [u]), J_inb (by omega), gd_d (by omega), J_nat (by omega), c5, c20, J_div (by omega) (by omega), J_add, ok_bnd]
      refine tail _ ?_ (fun k hk => (wr_k (by omega)).trans (hf2 k hk))
      unfold hg3
      rw [if_p hv3]
      exact Sim_pd _ hS2
    · rw [if_n (J_ne u (by omega) (by decide))]
      refine tail _ ?_ hf2
      unfold hg3
      rw [if_n (fun t => u (h3.mpr t))]
      exact hS2
  unfold f_S_closeHearing
  simp only [J_lit]
  rw [hi, ob1_s, if_n (J_neg (by omega)), if_n (fun u => by have := (J_le (by omega) (by omega)).mp u; omega), J_inb (by omega), gd_d (by omega), gd_d (by omega), J_nat (by omega), eH, J_add, ok_bnd]
  have hf1 : fr2 d (wr d 26 v (J (g (7 + v) + 1))) := fun k hk => wr_k (by omega)
  generalize wr d 26 v (J (g (7 + v) + 1)) = d2 at S1 hf1 ⊢
  unfold f_S_closeHearing_30
  simp only [J_lit]
  by_cases u : c = 103
  · have hv0 := h0.mp u
    have e3 : hg1 g v 3 = g 3 := hg1_n (by decide) hv
    have c18 : d2 18 p = J (g (102 + 5 * p)) := by
      rw [← hg1_n (g := g) (q := 102 + 5 * p) (by omega) hv]
      exact S1.bag (by rw [e3]; exact hp)
    have c21 : d2 21 p = J (g (105 + 5 * p)) := by
      rw [← hg1_n (g := g) (q := 105 + 5 * p) (by omega) hv]
      exact S1.bsv (by rw [e3]; exact hp)
    rw [if_p (by rw [u]), J_inb (by omega), gd_d (by omega), gd_d (by omega), J_nat (by omega), c18, c21, ok_ob1]
    refine ok_mono (C_addSentence S1 (by rw [hg1_n (by decide) hv]; exact h8) (fun i hi => ?_) (by rw [e3]; exact h10) (by rw [hg1_n (by decide) hv]; exact h12) (by rw [hg1_n (by decide) hv]; exact hb.1)) (fun d3 h => ?_)
    · rw [hg1_n (by decide) hv] at hi
      rw [hg1_n (by omega) hv]
      exact hw.sc i hi
    · refine mid d3 ?_ (fun k hk => (h.2 k hk).trans (hf1 k hk))
      have h1 := h.1
      rw [hg1_n (by omega) hv] at h1
      unfold hg2
      by_cases t : g (15 + 11 * g (102 + 5 * p)) < 8
      · rw [if_p t] at h1
        rw [if_p ⟨hv0, t⟩]
        exact h1
      · rw [if_n t] at h1
        rw [if_n (fun z => t z.2)]
        exact h1
  · rw [if_n (J_ne u (by omega) (by decide))]
    refine mid d2 ?_ hf1
    unfold hg2
    rw [if_n (fun z => u (h0.mpr z.1))]
    exact S1
/-- what a day leaves -/
def frP (d d' : Dt) : Prop := ∀ k, (k < 2 ∨ (27 ≤ k ∧ k < 277) ∨ 286 ≤ k) → d' k = d k
theorem frP.trans {d2 : Dt} (h : frP d d1) (h2 : frP d1 d2) : frP d d2 := fun k hk => (h2 k hk).trans (h k hk)
theorem fr2.frP (h : fr2 d d1) : frP d d1 := fun k hk => h k (by omega)
theorem C_hear (hS : Sim d 2 g) (hw : WX g) (hp : p < g 3) : ok (f_C_hear (J p) d) (fun d' => Sim d' 2 (hearG g p (vrd g (g (102 + 5 * p)))) ∧ frP d d') := by
  have h8 := hw.nl
  have h10 := hw.nb
  have hb := hw.br hp
  unfold f_C_hear
  simp only [J_lit]
  rw [ok_ob1]
  refine ok_mono (C_verd hS hw.wg hb.1) (fun d3 h3 => ?_)
  have hS3 : Sim d3 2 g := hS.same h8 (fun k h1 h2 => h3.1 k (by omega))
  have c18 : d3 18 p = J (g (102 + 5 * p)) := hS3.bag hp
  rw [J_inb (by omega), gd_d (by omega), J_nat (by omega), c18, h3.2, ob1_s, ok_ob1]
  refine ok_mono (C_close hS3 hw hp vrd_lt (vrc g (g (102 + 5 * p))) vrc_lt vd_0 vd_3 idx_vd) (fun d4 h4 => ?_)
  rw [ok_s]
  exact ⟨h4.1, fun k hk => by rw [h4.2 k (by omega), h3.1 k (by omega)]⟩
theorem J_dec {n : Nat} : J n + -J 1 = J n - J 1 := (Int32.sub_eq_add_neg _ _).symm
theorem C_lapse (hS : Sim d 2 g) (hw : WX g) : ok (f_S_letLapse d) (fun d' => Sim d' 2 (lpN (g 3) g) ∧ fr2 d d') := by
  have h10 := hw.nb
  have e16 : d 16 0 = J (g 3) := hS.nb
  unfold f_S_letLapse f_S_letLapse_10
  simp only [J_lit]
  rw [e16]
  refine iter_me (g 3) (fun m z => ∃ G d5, z = (J m - J 1, d5) ∧ Sim d5 2 G ∧ WX G ∧ m ≤ G 3 ∧ lpN m G = lpN (g 3) g ∧ fr2 d d5) ⟨g, d, rfl, hS, hw, Nat.le_refl _, rfl, fun _ _ => rfl⟩ (by omega) ?_
  intro m z hz
  obtain ⟨G, d5, rfl, z1, z2, z3, z4, z5⟩ := hz
  unfold st_S_letLapse_10
  simp only [J_lit]
  cases m with
  | zero =>
    rw [if_p (show J 0 - J 1 < J 0 by decide), ok_ir, ok_s]
    exact Or.inr ⟨_, rfl, by rw [← z4]; exact z1, z5⟩
  | succ m =>
    have hb := z2.br (k := m) (by omega)
    have hd := z2.day
    have G10 := z2.nb
    have c2 : d5 2 0 = J (G 1) := z1.day
    have c19 : d5 19 m = J (G (103 + 5 * m)) := z1.bld (by omega)
    have c20 : d5 20 m = J (G (104 + 5 * m)) := z1.bfe (by omega)
    have c5 : d5 2 5 = J (G 5) := z1.pd
    have c7 : d5 2 7 = J (G 11) := z1.lp
    have estep : lpN (m + 1) G = lpN m (if G (103 + 5 * m) ≤ G 1 then lpG G m else G) := rfl
    rw [J_sub (by omega), Nat.add_sub_cancel, if_n (J_neg (by omega)), J_inb (by omega), gd_d (by omega), J_nat (by omega), c2, c19, gd_d (by omega), c20, c5, J_add, J_dec]
    by_cases q : G 1 < G (103 + 5 * m)
    · rw [if_p ((J_lt (by omega) (by omega)).mpr q), ok_s]
      rw [if_n (by omega)] at estep
      exact Or.inl ⟨_, m, Nat.lt_succ_self m, rfl, G, d5, rfl, z1, z2, by omega, by rw [← estep, z4], z5⟩
    · rw [if_n (fun u => q ((J_lt (by omega) (by omega)).mp u)), ok_bnd, wr_j (by decide), c7, J_add, ok_bnd, ok_ob1]
      rw [if_p (by omega)] at estep
      have S2 := Sim_11 (v := G 11 + 1) (Sim_pd (G 5 + G (104 + 5 * m)) z1) (by rw [updG_n (by decide)]; exact z2.nl)
      have en : ∀ q, q ≠ 5 → q ≠ 11 → updG (updG G 5 (G 5 + G (104 + 5 * m))) 11 (G 11 + 1) q = G q := fun q h1 h2 => by rw [updG_n h2, updG_n h1]
      refine ok_mono (C_B_remove (p := m) S2 (by rw [en 0 (by decide) (by decide)]; exact z2.nl) (fun i hi => by
        rw [en 0 (by decide) (by decide)] at hi
        rw [en _ (by omega) (by omega)]
        exact z2.sc i hi) (by rw [en 3 (by decide) (by decide)]; exact G10) (by rw [en 4 (by decide) (by decide)]; exact z2.ns) (by rw [en 3 (by decide) (by decide)]; omega)) (fun d6 h6 => ?_)
      obtain ⟨w1, w2⟩ := WX_lp (n := m) z2 (by omega)
      rw [ok_s]
      refine Or.inl ⟨_, m, Nat.lt_succ_self m, rfl, lpG G m, d6, rfl, h6.1, w1, by omega, by rw [← estep, z4], fun k hk => ?_⟩
      rw [h6.2 k hk, wr_k (by omega), wr_k (by omega), z5 k hk]
theorem L_serves (hS : Sim d 2 g) (h8 : g 0 ≤ 8) (hsc : g (15 + 11 * i) ≤ 8) (hi : i < g 0) : f_L_serves (J i) d = some (J (if g (15 + 11 * i) = 0 then 0 else 1)) := by
  have e6 : d 6 i = J (g (15 + 11 * i)) := hS.sc hi
  unfold f_L_serves
  simp only [J_lit]
  rw [J_inb (by omega), gd_d (by omega), J_nat (by omega), e6]
  by_cases q : g (15 + 11 * i) = 0
  · rw [if_p ((J_le (by omega) (by omega)).mpr (by omega)), if_p q]
  · rw [if_n (fun u => by have := (J_le (by omega) (by omega)).mp u; omega), if_n q]
theorem Sim_bri (hS : Sim d 2 g) (hw : WF D g) (hi : i < g 0) : Sim (wr d 4 i (J v)) 2 (updG g (13 + 11 * i) v) := by
  have h8 := hw.nl
  refine Sim_lan hS hw.nb hw.ns (fun k hk => ?_) (fun q hq => updG_n (by omega)) (fun j hj => ?_)
  · rcases (by omega : k < 4 ∨ 16 ≤ k) with u | u
    · exact wr_k (by omega)
    · exact wr_k (by omega)
  · rw [updG_n (by omega)] at hj
    have hsc := hw.sc hj
    rw [updG_n (show 14 + 11 * j ≠ 13 + 11 * i by omega), updG_n (show 15 + 11 * j ≠ 13 + 11 * i by omega), wr_k (show 2 + 3 ≠ 4 by decide), wr_k (show 2 + 4 ≠ 4 by decide), wr_k (show 2 + 6 + j ≠ 4 by omega)]
    refine ⟨?_, hS.adm hj, hS.sc hj, fun k hk => ?_⟩
    · show wr d 4 i (J v) 4 j = _
      rw [wr_i]
      by_cases q : j = i
      · rw [if_p q, q, updG_s]
      · rw [if_n q, updG_n (by omega)]
        exact hS.bri hj
    · rw [updG_n (by omega)]
      exact hS.sen hj hk
theorem Sim_s0 (hS : Sim d 2 g) (hw : WF D g) (hi : i < g 0) (h1 : 1 ≤ g (15 + 11 * i)) : Sim (wr d (8 + i) 0 (J v)) 2 (updG g (16 + 11 * i) v) := by
  have h8 := hw.nl
  refine Sim_lan hS hw.nb hw.ns (fun k hk => wr_k (by omega)) (fun q hq => updG_n (by omega)) (fun j hj => ?_)
  rw [updG_n (by omega)] at hj
  have hsc := hw.sc hj
  rw [updG_n (show 13 + 11 * j ≠ 16 + 11 * i by omega), updG_n (show 14 + 11 * j ≠ 16 + 11 * i by omega), updG_n (show 15 + 11 * j ≠ 16 + 11 * i by omega), wr_k (show 2 + 2 ≠ 8 + i by omega), wr_k (show 2 + 3 ≠ 8 + i by omega), wr_k (show 2 + 4 ≠ 8 + i by omega)]
  refine ⟨hS.bri hj, hS.adm hj, hS.sc hj, fun k hk => ?_⟩
  rw [show 2 + 6 + j = 8 + j by omega]
  by_cases q : j = i
  · subst q
    rw [wr_i]
    by_cases q2 : k = 0
    · rw [if_p q2, q2, Nat.add_zero, updG_s]
    · rw [if_n q2, updG_n (by omega), show 8 + j = 2 + 6 + j by omega]
      exact hS.sen hj hk
  · rw [wr_k (by omega), updG_n (by omega), show 8 + j = 2 + 6 + j by omega]
    exact hS.sen hj hk
theorem ends_s0 (h1 : 1 ≤ g (15 + 11 * i)) : endsG (updG g (16 + 11 * i) v) i = endsG g i := by
  funext q
  have e : updG g (16 + 11 * i) v (15 + 11 * i) = g (15 + 11 * i) := updG_n (by omega)
  unfold endsG
  rw [e]
  by_cases q1 : q = 15 + 11 * i
  · rw [if_p q1, if_p q1]
  · rw [if_n q1, if_n q1]
    by_cases q2 : 16 + 11 * i ≤ q ∧ q < 16 + 11 * i + (g (15 + 11 * i) - 1)
    · rw [if_p q2, if_p q2, updG_n (by omega)]
    · rw [if_n q2, if_n q2]
      by_cases q3 : q = 16 + 11 * i + (g (15 + 11 * i) - 1)
      · rw [if_p q3, if_p q3]
      · rw [if_n q3, if_n q3, updG_n (by omega)]
theorem C_live (hS : Sim d 2 g) (hw : WF D g) : ok (f_L_liveOneDay d) (fun z => z.1 = J (scN g (g 0)) ∧ Sim z.2 2 (svN g (g 0)) ∧ fr2 d z.2) := by
  have h8 := hw.nl
  unfold f_L_liveOneDay f_L_liveOneDay_4
  simp only [J_lit]
  refine iter_up 0 (g 0) (fun n z => ∃ d5, z = (J (scN g n), J n, d5) ∧ Sim d5 2 (svN g n) ∧ fr2 d d5) ⟨d, rfl, hS, fun _ _ => rfl⟩ (Nat.zero_le _) (by omega) ?_ ?_
  · intro n z hn hz
    obtain ⟨d5, rfl, z1, z2⟩ := hz
    obtain ⟨w1, w2⟩ := svN_WF hw n (by omega)
    have e0 : svN g n 0 = g 0 := w2 0 (by decide)
    have c3 : d5 3 0 = J (g 0) := by rw [← e0]; exact z1.nl
    have es : svN g (n + 1) = svG (svN g n) n := rfl
    have ec : scN g (n + 1) = scN g n + (if svN g n (15 + 11 * n) = 0 then 0 else 1) := rfl
    rw [es, ec]
    generalize svN g n = X at z1 w1 e0 ⊢
    have hnX : n < X 0 := by omega
    have hsc := w1.sc hnX
    have hbr := w1.bri hnX
    have c4 : d5 4 n = J (X (13 + 11 * n)) := z1.bri hnX
    have S1 := fun v => Sim_bri (v := v) z1 w1 hnX
    unfold st_L_liveOneDay_4
    simp only [J_lit]
    rw [c3, if_n (fun q => by have := (J_le (by omega) (by omega)).mp q; omega), L_serves z1 (by omega) hsc hnX, ob1_s]
    unfold svG
    by_cases q : X (15 + 11 * n) = 0
    · rw [if_p q, if_p q, if_p rfl, J_inb (by omega), gd_d (by omega), gd_d (by omega), J_nat (by omega), c4, J_add, J_add, mnI_J (by omega) (by omega), ok_bnd, ok_s]
      exact Or.inl ⟨_, rfl, _, rfl, S1 _, fun k hk => by rw [wr_k (by omega)]; exact z2 k hk⟩
    · have h16 := w1.sen hnX (j := 0) (by omega)
      rw [Nat.add_zero] at h16
      have c8 : d5 (8 + n) 0 = J (X (16 + 11 * n)) := by
        rw [show 8 + n = 2 + 6 + n by omega, ← Nat.add_zero (16 + 11 * n)]
        exact z1.sen hnX (by omega)
      have hmx : mxI (J (X (13 + 11 * n)) - J 1) (J 0) = J (X (13 + 11 * n) - 1) := by
        by_cases u : X (13 + 11 * n) = 0
        · rw [u]; decide
        · rw [J_sub (by omega), mxI_J (by omega) (by omega), Nat.max_zero]
      rw [if_n q, if_n q, if_n n10, J_inb (by omega), gd_d (by omega), gd_d (by omega), J_nat (by omega), c4, hmx, ok_bnd, gd_d (by omega), wr_k (show 8 + n ≠ 4 by omega), c8, J_sub (by omega), ok_bnd, gd_d (by omega), wr_s]
      have w3 := WF_bri (v := X (13 + 11 * n) - 1) w1 hnX (by omega)
      have S2 := Sim_s0 (v := X (16 + 11 * n) - 1) (S1 (X (13 + 11 * n) - 1)) w3 (by rw [updG_n (by omega)]; exact hnX) (by rw [updG_n (by omega)]; omega)
      by_cases q2 : X (16 + 11 * n) = 1
      · rw [if_p q2, if_p (by rw [q2]), ok_ob2]
        have en : ∀ q, q ≠ 13 + 11 * n → q ≠ 16 + 11 * n → updG (updG X (13 + 11 * n) (X (13 + 11 * n) - 1)) (16 + 11 * n) (X (16 + 11 * n) - 1) q = X q := fun q h1 h2 => by rw [updG_n h2, updG_n h1]
        refine ok_mono (C_endSentence (D := D) (i := n) S2 (by rw [en 0 (by omega) (by omega), e0]; exact h8) (fun k hk => ?_) (by rw [en 3 (by omega) (by omega)]; exact w1.nb) (by rw [en 4 (by omega) (by omega)]; exact w1.ns) (by rw [en 0 (by omega) (by omega)]; exact hnX) (by rw [en _ (by omega) (by omega)]; omega)) (fun y hy => ?_)
        · rw [en 0 (by omega) (by omega)] at hk
          rw [en _ (by omega) (by omega)]
          exact w1.sc hk
        · rw [ok_s, J_add, J_add]
          refine Or.inl ⟨_, rfl, _, rfl, ?_, fun k hk => ?_⟩
          · have h1 := hy.2.1
            rw [ends_s0 (by rw [updG_n (by omega)]; omega)] at h1
            exact h1
          · rw [hy.2.2 k hk, wr_k (by omega), wr_k (by omega), z2 k hk]
      · rw [if_n q2, if_n (J_ne (by omega) (by omega) (by decide)), ok_s, J_add, J_add]
        exact Or.inl ⟨_, rfl, _, rfl, S2, fun k hk => by rw [wr_k (by omega), wr_k (by omega)]; exact z2 k hk⟩
  · intro z hz
    obtain ⟨d5, rfl, z1, z2⟩ := hz
    have c3 : d5 3 0 = J (g 0) := by
      have e0 : svN g (g 0) 0 = g 0 := (svN_WF hw (g 0) (Nat.le_refl _)).2 0 (by decide)
      have := z1.nl
      rw [e0] at this
      exact this
    unfold st_L_liveOneDay_4
    simp only [J_lit]
    rw [c3, if_p ((J_le (by omega) (by omega)).mpr (Nat.le_refl _)), ok_ir, ok_s]
    exact ⟨_, rfl, rfl, z1, z2⟩
theorem WX_hr (hw : WF D g) (hD : D < 100000) : WX (hrG g) := by
  obtain ⟨G, e, w⟩ := hrG_eq hw
  rw [e]
  exact WX_of w hD
theorem C_pass69 {x2 x3 : Int32} {x1 : Int32} (hS : Sim d 2 (hrG g)) (hw : WF D g) (hD : D < 100000) : ok (f_C_letPass_69 x1 x2 x3 d) (fun z => ∃ d', z = .inl (x2, x3 + J 1, d') ∧ Sim d' 2 (dayR g) ∧ frP d d') := by
  unfold f_C_letPass_69
  simp only [J_lit]
  rw [ok_ob1]
  refine ok_mono (C_lapse hS (WX_hr hw hD)) (fun d3 h3 => ?_)
  have w := WF_lv hw
  have S3 : Sim d3 2 (lvG g) := h3.1
  have c8 : d3 2 8 = J (lvG g 12) := S3.sd
  rw [ok_ob2]
  refine ok_mono (C_live S3 w) (fun y hy => ?_)
  rw [c8, hy.1, J_add, ok_bnd, ok_s]
  refine ⟨_, rfl, Sim_12 hy.2.1 (by rw [(svN_WF w (lvG g 0) (Nat.le_refl _)).2 0 (by decide)]; exact w.nl), fun k hk => ?_⟩
  rw [wr_k (by omega), hy.2.2 k (by omega), h3.2 k (by omega)]
theorem C_letPass (hS : Sim d 2 g) (hw : WF D g) (hn : n ≤ 9) (hD : D + 9 < 100000) : ok (f_C_letPass (J n) d) (fun z => z.1 = J (hcN g n) ∧ Sim z.2 2 (dRN g n) ∧ frP d z.2) := by
  unfold f_C_letPass f_C_letPass_4
  simp only [J_lit]
  refine iter_up 0 n (fun i z => ∃ d5, z = (J (hcN g i), J i, d5) ∧ Sim d5 2 (dRN g i) ∧ frP d d5) ⟨d, rfl, hS, fun _ _ => rfl⟩ (Nat.zero_le _) (by omega) ?_ ?_
  · intro i z hi hz
    obtain ⟨d5, rfl, z1, z2⟩ := hz
    have wi := WF_dRN hw i
    have eR : dRN g (i + 1) = dayR (dRN g i) := rfl
    have eH : hcN g (i + 1) = hcN g i + (if plN (dRN g i) = 0 then 0 else 1) := rfl
    have hhc := hcN_le (g := g) i
    rw [eR, eH]
    generalize dRN g i = X at z1 wi ⊢
    have hX10 := wi.nb
    have hN := plN_le (g := X)
    unfold st_C_letPass_4
    simp only [J_lit]
    rw [if_n (fun q => by have := (J_le (by omega) (by omega)).mp q; omega), ok_ob1]
    refine ok_mono (P_make z1 wi (by omega)) (fun d6 h6 => ?_)
    obtain ⟨⟨p1, p2, p3⟩, p4⟩ := h6
    have S6 : Sim d6 2 X := z1.same wi.nl (fun k h1 h2 => p4 k (by omega))
    have c2 : d6 2 0 = J (X 1) := S6.day
    have S7 : Sim (wr d6 2 0 (J (X 1 + 1))) 2 (updG X 1 (X 1 + 1)) := Sim_1 S6 wi.nl
    have f7 : frP d (wr d6 2 0 (J (X 1 + 1))) := fun k hk => by rw [wr_k (by omega), p4 k (by omega), z2 k hk]
    have wx := WX_of wi (show D + i < 100000 by omega)
    rw [c2, J_add, ok_bnd, wr_k (show 277 ≠ 2 by decide), wr_k (show 278 ≠ 2 by decide), p2]
    by_cases q : plN X = 0
    · rw [if_p ((J_le (by omega) (by omega)).mpr (by omega)), if_p q]
      have S8 : Sim (wr d6 2 0 (J (X 1 + 1))) 2 (hrG X) := by
        unfold hrG
        rw [if_p q]
        exact S7
      refine ok_mono (C_pass69 S8 wi (by omega)) (fun y hy => ?_)
      obtain ⟨d8, rfl, y1, y2⟩ := hy
      rw [J_add]
      exact Or.inl ⟨_, rfl, d8, rfl, y1, f7.trans y2⟩
    · obtain ⟨f1, f2, f3⟩ := first_ex wi q
      have c0 : d6 278 0 = J (hfO X (X 3)) := by
        rw [← f3]
        exact p3 _ f1 f2
      rw [if_n (fun u => by have := (J_le (by omega) (by omega)).mp u; omega), if_n q, c0, ok_ob1, J_add]
      refine ok_mono (C_hear S7 wx (by rw [updG_n (by decide)]; exact f1)) (fun d7 h7 => ?_)
      have S8 : Sim d7 2 (hrG X) := by
        have h71 := h7.1
        rw [updG_n (show 102 + 5 * hfO X (X 3) ≠ 1 by omega)] at h71
        unfold hrG
        rw [if_n q]
        exact h71
      refine ok_mono (C_pass69 S8 wi (by omega)) (fun y hy => ?_)
      obtain ⟨d8, rfl, y1, y2⟩ := hy
      rw [J_add]
      exact Or.inl ⟨_, rfl, d8, rfl, y1, (f7.trans h7.2).trans y2⟩
  · intro z hz
    obtain ⟨d5, rfl, z1, z2⟩ := hz
    unfold st_C_letPass_4
    simp only [J_lit]
    rw [if_p ((J_le (by omega) (by omega)).mpr (Nat.le_refl _)), ok_ir, ok_s]
    exact ⟨_, rfl, rfl, z1, z2⟩
end DAYC
