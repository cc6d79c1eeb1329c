/-! 53: a day: the reference; the law's case passDays -/
section DAYM
variable {D D' : Nat} {d d' d1 d2 d3 : Dt} {g g' G : Nat → Nat} {us us' : List (Nat → Nat)} {sv : Option (Nat → Nat)} {e f : Int32} {ln : Nat} {cs : Nat → Nat} {om : Nat} {os : Nat → Nat} {L i : Nat} {xs : Nat → Int32} {b : Bool} {c k n p v w t a s x : Nat}
theorem M_hearingNone (hr : rowN d 293 0 g) (hw : WF D g) (h : plN g = 0) : f_M_hearing (J (plT g)) (J 0) d = some (-J 1) := by
  have h10 := hw.nb
  have e3 : d 293 3 = J (g 3) := hr.at (by decide)
  apply ok_eq
  unfold f_M_hearing f_M_hearing_2
  simp only [J_lit]
  refine iter_up 0 (g 3) (fun n z => z = J n) rfl (Nat.zero_le _) (by omega) ?_ ?_
  · intro n z hn hz
    subst hz
    have hb : (plT g).testBit n = false := by
      cases q : (plT g).testBit n with
      | false => rfl
      | true => have := hpl_lt hn q; omega
    unfold st_M_hearing_2
    simp only [J_lit]
    rw [e3, if_n (fun q => by have := (J_le (by omega) (by omega)).mp q; omega), J_bit (by omega), hb, if_p (show J (if false = true then 1 else 0) = J 0 by decide), ok_s, J_add]
    exact Or.inl ⟨_, rfl, rfl⟩
  · intro z hz
    subst hz
    unfold st_M_hearing_2
    simp only [J_lit]
    rw [e3, if_p ((J_le (by omega) (by omega)).mpr (Nat.le_refl _)), ok_ir, ok_s]
    exact ⟨_, rfl, rfl⟩
theorem M_hears (h : MO d d3 us G c) (hw : WX G) (hp : p < G 3) : ok (f_M_hears (J p) d3) (fun d' => MO d d' us (hearG G p (vrd G (G (102 + 5 * p)))) c) := by
  have h8 := hw.nl
  have h10 := hw.nb
  have hb := hw.br hp
  have hv : vrd G (G (102 + 5 * p)) < 4 := vrd_lt
  have e1 : d3 293 (101 + 5 * p + 1) = J (G (102 + 5 * p)) := by rw [h.at (by omega), show 101 + 5 * p + 1 = 102 + 5 * p by omega]
  unfold f_M_hears
  simp only [J_lit]
  rw [M_brief (by omega) (by decide), ob1_s, e1, M_judge h.2.1 hw.wg hb.1, ob1_s, ob1_s, show J (vdi (anyN (r1 G (G (102 + 5 * p))) (2 ^ G 0)) (anyN (r0 G (G (102 + 5 * p))) (2 ^ G 0))) = J (vrd G (G (102 + 5 * p))) from rfl]
  generalize vrd G (G (102 + 5 * p)) = v at hv ⊢
  rw [J_add, J_inb (by omega), gd_d (by omega), gd_d (by omega), J_nat (by omega), h.at (by omega), J_add, ok_bnd]
  have h1 : MO d (wr d3 293 (7 + v) (J (G (7 + v) + 1))) us (hg1 G v) c := MO_upd h (7 + v) (G (7 + v) + 1)
  generalize wr d3 293 (7 + v) (J (G (7 + v) + 1)) = d4 at h1 ⊢
  have tail : ∀ d5, MO d d5 us (hg2 G p v) c → ok (f_M_hears_79 (J p) (J v) d5) (fun d' => MO d d' us (hearG G p v) c) := fun d5 h5 => by
    have e5 : hg2 G p v 5 = G 5 := by
      unfold hg2
      by_cases u : v = 0 ∧ G (15 + 11 * G (102 + 5 * p)) < 8
      · rw [if_p u, senG_n (by omega) (by omega), hg1_n (by decide) hv]
      · rw [if_n u, hg1_n (by decide) hv]
    have e3 : hg3 G p v 3 = G 3 := by
      have e4 : hg2 G p v 3 = G 3 := by
        unfold hg2
        by_cases u : v = 0 ∧ G (15 + 11 * G (102 + 5 * p)) < 8
        · rw [if_p u, senG_n (by omega) (by omega), hg1_n (by decide) hv]
        · rw [if_n u, hg1_n (by decide) hv]
      unfold hg3
      by_cases u : v = 3
      · rw [if_p u, updG_n (by decide), e4]
      · rw [if_n u, e4]
    have fin : ∀ d6, MO d d6 us (hg3 G p v) c → ok (f_M_hears_101 (J p) d6) (fun d' => MO d d' us (hearG G p v) c) := fun d6 h6 => by
      unfold f_M_hears_101
      rw [ok_ob1]
      refine ok_mono (M_goes h6 (by rw [e3]; exact hp) (by rw [e3]; exact h10)) (fun d7 h7 => ?_)
      rw [ok_s]
      exact h7
    unfold f_M_hears_79
    simp only [J_lit]
    by_cases u : v = 3
    · have e104 : d5 293 (101 + 5 * p + 3) = J (G (104 + 5 * p)) := by
        rw [h5.at (by omega), show 101 + 5 * p + 3 = 104 + 5 * p by omega]
        unfold hg2
        rw [if_n (fun t => by omega), hg1_n (by omega) hv]
      rw [if_p (by rw [u]), M_brief (by omega) (by decide), ob1_s, e104, h5.at (by decide), e5, J_div (by omega) (by omega), J_add, ok_bnd]
      refine fin _ ?_
      have := MO_upd h5 5 (G 5 + G (104 + 5 * p) / 2)
      unfold hg3
      rw [if_p u]
      exact this
    · rw [if_n (J_ne u (by omega) (by decide))]
      refine fin _ ?_
      unfold hg3
      rw [if_n u]
      exact h5
  by_cases q : v = 0
  · have hsc := hw.sc _ hb.1
    have e15 : d4 293 (13 + 11 * G (102 + 5 * p) + 2) = J (G (15 + 11 * G (102 + 5 * p))) := by rw [h1.at (by omega), show 13 + 11 * G (102 + 5 * p) + 2 = 15 + 11 * G (102 + 5 * p) by omega, hg1_n (by omega) hv]
    rw [if_p (by rw [q]), M_of (by omega) (by decide), ob1_s, e15]
    by_cases q2 : G (15 + 11 * G (102 + 5 * p)) < 8
    · have e105 : d4 293 (101 + 5 * p + 4) = J (G (105 + 5 * p)) := by rw [h1.at (by omega), show 101 + 5 * p + 4 = 105 + 5 * p by omega, hg1_n (by omega) hv]
      rw [if_n (fun u => by have := (J_le (by omega) (by omega)).mp u; omega), ob1_s, M_brief (by omega) (by decide), ob1_s, e105, J_add, M_lays (by omega) (by omega), ob1_s]
      have h5 := MO_upd h1 (13 + 11 * G (102 + 5 * p) + (3 + G (15 + 11 * G (102 + 5 * p)))) (G (105 + 5 * p))
      generalize wr d4 293 (13 + 11 * G (102 + 5 * p) + (3 + G (15 + 11 * G (102 + 5 * p)))) (J (G (105 + 5 * p))) = d5 at h5 ⊢
      have e152 : d5 293 (13 + 11 * G (102 + 5 * p) + 2) = J (G (15 + 11 * G (102 + 5 * p))) := by rw [h5.at (by omega), updG_n (by omega), show 13 + 11 * G (102 + 5 * p) + 2 = 15 + 11 * G (102 + 5 * p) by omega, hg1_n (by omega) hv]
      rw [M_of (by omega) (by decide), ob1_s, e152, J_add, M_lays (by omega) (by decide), ob1_s]
      have h6 := MO_upd h5 (13 + 11 * G (102 + 5 * p) + 2) (G (15 + 11 * G (102 + 5 * p)) + 1)
      refine tail _ ?_
      unfold hg2 senG
      rw [if_p ⟨q, q2⟩, hg1_n (show 15 + 11 * G (102 + 5 * p) < 7 ∨ 11 ≤ 15 + 11 * G (102 + 5 * p) by omega) hv, show 16 + 11 * G (102 + 5 * p) + G (15 + 11 * G (102 + 5 * p)) = 13 + 11 * G (102 + 5 * p) + (3 + G (15 + 11 * G (102 + 5 * p))) by omega, show 15 + 11 * G (102 + 5 * p) = 13 + 11 * G (102 + 5 * p) + 2 by omega]
      rw [show 15 + 11 * G (102 + 5 * p) = 13 + 11 * G (102 + 5 * p) + 2 by omega] at h6
      exact h6
    · rw [if_p ((J_le (by omega) (by omega)).mpr (by omega))]
      refine tail _ ?_
      unfold hg2
      rw [if_n (fun t => q2 t.2)]
      exact h1
  · rw [if_n (J_ne q (by omega) (by decide))]
    refine tail _ ?_
    unfold hg2
    rw [if_n (fun t => q t.1)]
    exact h1
theorem ends_lowupd {j : Nat} (h : j < 15 + 11 * i) : endsG (updG g j v) i = updG (endsG g i) j v := by
  funext q
  have e : updG g j v (15 + 11 * i) = g (15 + 11 * i) := updG_n (by omega)
  by_cases h1 : q = j
  · subst h1
    rw [updG_s]
    unfold endsG
    rw [if_n (by omega), if_n (by omega), if_n (by omega), updG_s]
  · rw [updG_n h1]
    unfold endsG
    rw [e]
    by_cases q1 : q = 15 + 11 * i
    · rw [if_p q1, if_p q1]
    · rw [if_n q1, if_n q1]
      by_cases q2 : 16 + 11 * i ≤ q ∧ q < 16 + 11 * i + (g (15 + 11 * i) - 1)
      · rw [if_p q2, if_p q2, updG_n (by omega)]
      · rw [if_n q2, if_n q2, updG_n h1]
theorem M_serves (h : MO d d3 us (updG g 12 w) c) (hw : WF D g) (hi : i < g 0) : ok (f_M_serves (J i) d3) (fun d' => MO d d' us (updG (svG g i) 12 (w + (if g (15 + 11 * i) = 0 then 0 else 1))) c) := by
  have h8 := hw.nl
  have hb := hw.bri hi
  have hsc := hw.sc hi
  have e13 : d3 293 (13 + 11 * i + 0) = J (g (13 + 11 * i)) := by rw [h.at (by omega), Nat.add_zero, updG_n (by omega)]
  have e15 : d3 293 (13 + 11 * i + 2) = J (g (15 + 11 * i)) := by rw [h.at (by omega), updG_n (by omega), show 13 + 11 * i + 2 = 15 + 11 * i by omega]
  unfold f_M_serves svG
  simp only [J_lit]
  rw [M_of (by omega) (by decide), ob1_s, M_of (by omega) (by decide), ob1_s, e13, e15]
  by_cases q : g (15 + 11 * i) = 0
  · have fin : ∀ v, v = min (g (13 + 11 * i) + 1) 9 → ok (f_M_serves_33 (J i) (J 0) (J v) d3) (fun d' => MO d d' us (updG (updG g (13 + 11 * i) (min (g (13 + 11 * i) + 1) 9)) 12 (w + 0)) c) := fun v hv => by
      unfold f_M_serves_33
      rw [M_lays (by omega) (by decide), ob1_s, ok_s, ← hv]
      have := MO_upd h (13 + 11 * i + 0) v
      rw [updG_comm (by omega)] at this
      exact this
    rw [if_p (by rw [q]), if_p q, if_p q]
    by_cases q2 : 9 ≤ g (13 + 11 * i)
    · rw [if_p ((J_le (by omega) (by omega)).mpr q2)]
      exact fin 9 (by omega)
    · rw [if_n (fun u => q2 ((J_le (by omega) (by omega)).mp u)), J_add]
      exact fin _ (by omega)
  · have h16 := hw.sen hi (j := 0) (by omega)
    rw [Nat.add_zero] at h16
    have fin : ∀ v, v = g (13 + 11 * i) - 1 → ok (f_M_serves_51 (J i) (J i) (J 0) (J v) d3) (fun d' => MO d d' us (updG (if g (16 + 11 * i) = 1 then endsG (updG g (13 + 11 * i) (g (13 + 11 * i) - 1)) i else updG (updG g (13 + 11 * i) (g (13 + 11 * i) - 1)) (16 + 11 * i) (g (16 + 11 * i) - 1)) 12 (w + 1)) c) := fun v hv => by
      unfold f_M_serves_51
      simp only [J_lit]
      rw [M_lays (by omega) (by decide), ob1_s, ← hv]
      have h4 := MO_upd h (13 + 11 * i + 0) v
      generalize wr d3 293 (13 + 11 * i + 0) (J v) = d4 at h4 ⊢
      rw [Nat.add_zero] at h4
      have e16 : d4 293 (13 + 11 * i + 3) = J (g (16 + 11 * i)) := by rw [h4.at (by omega), updG_n (by omega), updG_n (by omega), show 13 + 11 * i + 3 = 16 + 11 * i by omega]
      rw [M_of (by omega) (by decide), ob1_s, e16, J_sub (by omega), M_lays (by omega) (by decide), ob1_s]
      have h5 := MO_upd h4 (13 + 11 * i + 3) (g (16 + 11 * i) - 1)
      generalize wr d4 293 (13 + 11 * i + 3) (J (g (16 + 11 * i) - 1)) = d5 at h5 ⊢
      have e12 : d5 293 12 = J w := by rw [h5.at (by omega), updG_n (by omega), updG_n (by omega), updG_s]
      rw [e12, J_add, ok_bnd]
      have h6 := MO_upd h5 12 (w + 1)
      generalize wr d5 293 12 (J (w + 1)) = d6 at h6 ⊢
      have e163 : d6 293 (13 + 11 * i + 3) = J (g (16 + 11 * i) - 1) := by rw [h6.at (by omega), updG_n (by omega), updG_s]
      have eG : updG (updG (updG (updG g 12 w) (13 + 11 * i) v) (13 + 11 * i + 3) (g (16 + 11 * i) - 1)) 12 (w + 1) = updG (updG (updG g (13 + 11 * i) v) (16 + 11 * i) (g (16 + 11 * i) - 1)) 12 (w + 1) := by
        rw [show 13 + 11 * i + 3 = 16 + 11 * i by omega, updG_comm (show 12 ≠ 13 + 11 * i by omega), updG_comm (show 12 ≠ 16 + 11 * i by omega), updG_updG]
      rw [eG] at h6
      rw [M_of (by omega) (by decide), ob1_s, e163]
      by_cases q2 : g (16 + 11 * i) = 1
      · rw [if_p (by rw [q2]), if_p q2, ok_ob1]
        refine ok_mono (M_ends (i := i) h6 (by omega) (by rw [updG_n (by omega), updG_n (by omega), updG_n (by omega)]; exact hsc) (by rw [updG_n (by omega), updG_n (by omega), updG_n (by omega)]; omega)) (fun d7 h7 => ?_)
        rw [ends_lowupd (by omega), ends_s0 (by rw [updG_n (by omega)]; omega)] at h7
        rw [ok_s]
        exact h7
      · rw [if_n (J_ne (by omega) (by omega) (by decide)), if_n q2, ok_s]
        exact h6
    rw [if_n (J_ne q (by omega) (by decide)), if_n q, if_n q]
    by_cases q2 : g (13 + 11 * i) = 0
    · rw [if_p ((J_le (by omega) (by omega)).mpr (by omega))]
      exact fin 0 (by omega)
    · rw [if_n (fun u => q2 (by have := (J_le (by omega) (by omega)).mp u; omega)), J_sub (by omega)]
      exact fin _ rfl
theorem M_passes99 {x1 : Int32} (h : MO d d3 us G c) (hw : WF D G) : ok (f_M_passes_99 x1 (J 0) d3) (fun z => z.1 = (if x1 < J 0 then J 0 else J 1) ∧ MO d z.2 us (updG (svN G (G 0)) 12 (G 12 + scN G (G 0))) c) := by
  have h8 := hw.nl
  unfold f_M_passes_99
  refine iter_up 0 (G 0) (fun n z => ∃ d5, z = (J n, d5) ∧ MO d d5 us (updG (svN G n) 12 (G 12 + scN G n)) c) ⟨d3, rfl, by
    show MO d d3 us (updG G 12 (G 12 + 0)) c
    rw [Nat.add_zero, updG_self]
    exact h⟩ (Nat.zero_le _) (by omega) ?_ ?_
  · intro n z hn hz
    obtain ⟨d5, rfl, z1⟩ := hz
    obtain ⟨w1, w2⟩ := svN_WF hw n (by omega)
    have e0 : svN G n 0 = G 0 := w2 0 (by decide)
    have c0 : d5 293 0 = J (G 0) := by rw [z1.at (by decide), updG_n (by decide), e0]
    unfold st_M_passes_99
    simp only [J_lit]
    rw [c0, if_n (fun q => by have := (J_le (by omega) (by omega)).mp q; omega), ok_ob1]
    refine ok_mono (M_serves z1 w1 (by omega)) (fun d6 h6 => ?_)
    rw [ok_s, J_add]
    refine Or.inl ⟨_, rfl, d6, rfl, ?_⟩
    rw [Nat.add_assoc] at h6
    exact h6
  · intro z hz
    obtain ⟨d5, rfl, z1⟩ := hz
    have e0 : svN G (G 0) 0 = G 0 := (svN_WF hw (G 0) (Nat.le_refl _)).2 0 (by decide)
    have c0 : d5 293 0 = J (G 0) := by rw [z1.at (by decide), updG_n (by decide), e0]
    unfold st_M_passes_99
    simp only [J_lit]
    rw [c0, if_p ((J_le (by omega) (by omega)).mpr (Nat.le_refl _)), ok_ir]
    by_cases q : x1 < J 0
    · rw [if_p q, if_p q, ok_s]
      exact ⟨_, rfl, rfl, z1⟩
    · rw [if_n q, if_n q, ok_s]
      exact ⟨_, rfl, rfl, z1⟩
theorem M_passes38 {x1 : Int32} (h : MO d d3 us G c) (hw : WX G) (hL : WF D (lpN (G 3) G)) : ok (f_M_passes_29 x1 d3) (fun z => z.1 = (if x1 < J 0 then J 0 else J 1) ∧ MO d z.2 us (updG (svN (lpN (G 3) G) (lpN (G 3) G 0)) 12 (lpN (G 3) G 12 + scN (lpN (G 3) G) (lpN (G 3) G 0))) c) := by
  have h10 := hw.nb
  unfold f_M_passes_29 f_M_passes_38
  simp only [J_lit]
  rw [h.at (by decide)]
  refine iter_me (G 3) (fun m z => ∃ X d5, z = (J m - J 1, d5) ∧ MO d d5 us X c ∧ WX X ∧ m ≤ X 3 ∧ lpN m X = lpN (G 3) G) ⟨G, d3, rfl, h, hw, Nat.le_refl _, rfl⟩ (by omega) ?_
  intro m z hz
  obtain ⟨X, d5, rfl, z1, z2, z3, z4⟩ := hz
  unfold st_M_passes_38
  simp only [J_lit]
  cases m with
  | zero =>
    rw [if_p (show J 0 - J 1 < J 0 by decide), ok_ir]
    have e : X = lpN (G 3) G := z4
    rw [e] at z1
    exact ok_mono (M_passes99 z1 hL) (fun y hy => Or.inr ⟨y, rfl, hy⟩)
  | succ m =>
    have hb := z2.br (k := m) (by omega)
    have hd := z2.day
    have G10 := z2.nb
    have c2 : d5 293 (101 + 5 * m + 2) = J (X (103 + 5 * m)) := by rw [z1.at (by omega), show 101 + 5 * m + 2 = 103 + 5 * m by omega]
    have c3 : d5 293 (101 + 5 * m + 3) = J (X (104 + 5 * m)) := by rw [z1.at (by omega), show 101 + 5 * m + 3 = 104 + 5 * m by omega]
    have estep : lpN (m + 1) X = lpN m (if X (103 + 5 * m) ≤ X 1 then lpG X m else X) := rfl
    rw [J_sub (by omega), Nat.add_sub_cancel, if_n (J_neg (by omega)), M_brief (by omega) (by decide), ob1_s, c2, z1.at (j := 1) (by decide), J_dec]
    by_cases q : X (103 + 5 * m) ≤ X 1
    · rw [if_p ((J_le (by omega) (by omega)).mpr q), M_brief (by omega) (by decide), ob1_s, c3, z1.at (j := 5) (by decide), J_add, ok_bnd]
      rw [if_p q] at estep
      have h6 := MO_upd z1 5 (X 5 + X (104 + 5 * m))
      generalize wr d5 293 5 (J (X 5 + X (104 + 5 * m))) = d6 at h6 ⊢
      have c11 : d6 293 11 = J (X 11) := by rw [h6.at (by decide), updG_n (by decide)]
      rw [c11, J_add, ok_bnd]
      have h7 := MO_upd h6 11 (X 11 + 1)
      generalize wr d6 293 11 (J (X 11 + 1)) = d7 at h7 ⊢
      have e3 : updG (updG X 5 (X 5 + X (104 + 5 * m))) 11 (X 11 + 1) 3 = X 3 := by rw [updG_n (by decide), updG_n (by decide)]
      rw [ok_ob1]
      refine ok_mono (M_goes (p := m) h7 (by rw [e3]; omega) (by rw [e3]; exact G10)) (fun d8 h8 => ?_)
      obtain ⟨w1, w2⟩ := WX_lp (n := m) z2 (by omega)
      rw [ok_s]
      exact Or.inl ⟨_, m, Nat.lt_succ_self m, rfl, lpG X m, d8, rfl, h8, w1, by omega, by rw [← estep, z4]⟩
    · rw [if_n (fun u => q ((J_le (by omega) (by omega)).mp u)), ok_s]
      rw [if_n q] at estep
      exact Or.inl ⟨_, m, Nat.lt_succ_self m, rfl, X, d5, rfl, z1, z2, by omega, by rw [← estep, z4]⟩
theorem M_passes (h : MO d d3 us g c) (hw : WF D g) (hD : D < 100000) : ok (f_M_passes d3) (fun z => z.1 = J (if plN g = 0 then 0 else 1) ∧ MO d z.2 us (dayR g) c) := by
  have h10 := hw.nb
  have wl := WF_lv hw
  have wx := WX_hr hw hD
  have wd := WX_of hw hD
  have h4 : MO d (wr d3 293 1 (J (g 1 + 1))) us (updG g 1 (g 1 + 1)) c := MO_upd h 1 (g 1 + 1)
  unfold f_M_passes
  simp only [J_lit]
  rw [M_plan h.2.1 hw hD, ob1_s]
  by_cases q : plN g = 0
  · have eh : hrG g = updG g 1 (g 1 + 1) := by unfold hrG; rw [if_p q]
    rw [M_hearingNone h.2.1 hw q, ob1_s, h.at (by decide), J_add, ok_bnd, if_p (show -J 1 < J 0 by decide), if_p q]
    rw [← eh] at h4
    refine ok_mono (M_passes38 h4 wx wl) (fun z hz => ?_)
    rw [if_p (show -J 1 < J 0 by decide)] at hz
    exact hz
  · obtain ⟨f1, f2, f3⟩ := first_ex hw q
    have eh : hrG g = hearG (updG g 1 (g 1 + 1)) (hfO g (g 3)) (vrd (updG g 1 (g 1 + 1)) (updG g 1 (g 1 + 1) (102 + 5 * hfO g (g 3)))) := by
      unfold hrG
      rw [if_n q, updG_n (show 102 + 5 * hfO g (g 3) ≠ 1 by omega)]
    have hM := M_hearing h.2.1 hw hD f1 f2
    rw [f3] at hM
    rw [hM, ob1_s, h.at (by decide), J_add, ok_bnd, if_n (J_neg (by omega)), if_n q, ok_ob1]
    refine ok_mono (M_hears (p := hfO g (g 3)) h4 wd (by rw [updG_n (by decide)]; exact f1)) (fun d5 h5 => ?_)
    rw [← eh] at h5
    refine ok_mono (M_passes38 h5 wx wl) (fun z hz => ?_)
    rw [if_n (J_neg (by omega))] at hz
    exact hz
theorem M_passDays {x : Int32} (hp : MP d us g b) (hw : WF D g) (hD : D + 9 < 100000) : (¬ (∃ n, 1 ≤ n ∧ n ≤ 9 ∧ x = J n) → ok (f_M_passDays x d) (fun z => MO d z.2 us g 1)) ∧ ∀ n, 1 ≤ n → n ≤ 9 → x = J n → ok (f_M_passDays x d) (fun z => z.1 = J (hcN g n) ∧ MO d z.2 (pw b us g) (dRN g n) 0) := by
  obtain ⟨hr, hk, hl, hwt⟩ := hp
  unfold f_M_passDays f_M_passDays_16
  simp only [J_lit]
  refine ⟨fun q => ?_, fun n h1 h9 hx => ?_⟩
  · rw [(M_in_g (by decide) (by decide)).2 q, ob1_s, if_p rfl, M_f1 (by decide) (by decide), ok_s]
    exact MO_code hr hk 1
  · rw [(M_in_g (by decide) (by decide)).1 ⟨n, h1, h9, hx⟩, ob1_s, if_n n10, M_f0, ok_ob1]
    refine ok_mono ((MO_code hr hk 0).kp hl hwt) (fun d5 h5 => ?_)
    rw [hx]
    unfold f_M_passDays_36
    refine iter_up 0 n (fun i z => ∃ d6, z = (J (hcN g i), J i, d6) ∧ MO d d6 (pw b us g) (dRN g i) 0) ⟨d5, rfl, h5⟩ (Nat.zero_le _) (by omega) ?_ ?_
    · intro i z hi hz
      obtain ⟨d6, rfl, z1⟩ := hz
      unfold st_M_passDays_36
      simp only [J_lit]
      rw [if_n (fun q => by have := (J_le (by omega) (by omega)).mp q; omega), ok_ob2]
      refine ok_mono (M_passes z1 (WF_dRN hw i) (by omega)) (fun y hy => ?_)
      rw [ok_s, hy.1, J_add, J_add]
      exact Or.inl ⟨_, rfl, y.2, rfl, hy.2⟩
    · intro z hz
      obtain ⟨d6, rfl, z1⟩ := hz
      unfold st_M_passDays_36
      simp only [J_lit]
      rw [if_p ((J_le (by omega) (by omega)).mpr (Nat.le_refl _)), ok_ir, ok_s]
      exact ⟨_, rfl, rfl, z1⟩
theorem rngT {a b : Nat} {y : Int32} (ha : a < 1000) (hb : b < 1000) : (∃ k, a ≤ k ∧ k ≤ b ∧ y = J k) ↔ (¬ y < J a ∧ ¬ J b < y) := by
  rcases J_cases y with hy | ⟨k, hk, rfl⟩
  · refine ⟨fun ⟨k, h1, h2, h3⟩ => ?_, fun ⟨h1, h2⟩ => ?_⟩
    · rw [h3] at hy
      exact absurd hy (J_neg (by omega))
    · exfalso
      apply h1
      rw [Int32.lt_iff_toInt_lt, J_toInt (by omega)]
      have := Int32.lt_iff_toInt_lt.mp hy
      have h0 : (0 : Int32).toInt = 0 := by decide
      omega
  · rw [J_lt hk (by omega), J_lt (by omega) hk]
    refine ⟨fun ⟨k', h1, h2, h3⟩ => ?_, fun ⟨h1, h2⟩ => ⟨k, by omega, by omega, rfl⟩⟩
    have := (J_inj hk (by omega)).mp h3
    omega
theorem C_canPass {x : Int32} : ((∃ n, 1 ≤ n ∧ n ≤ 9 ∧ x = J n) → f_C_canPass x d = some (J 1)) ∧ (¬ (∃ n, 1 ≤ n ∧ n ≤ 9 ∧ x = J n) → f_C_canPass x d = some (J 0)) := by
  unfold f_C_canPass
  simp only [J_lit]
  refine ⟨fun q => ?_, fun q => ?_⟩
  · have h := (rngT (y := x) (by decide) (by decide)).mp q
    rw [if_n h.1, if_n h.2]
  · by_cases h1 : x < J 1
    · rw [if_p h1]
    · rw [if_n h1]
      by_cases h2 : J 9 < x
      · rw [if_p h2]
      · exact absurd ((rngT (y := x) (by decide) (by decide)).mpr ⟨h1, h2⟩) q
theorem HS.frP (h : HS d us) (hu : ∀ u ∈ us, WF D u) (h2 : frP d d1) : HS d1 us := by
  obtain ⟨h1, nu, h3, h4, h5⟩ := h
  refine ⟨by rw [h2 0 (by omega)]; exact h1, nu, h3, by rw [h2 0 (by omega)]; exact h4, fun j hj => (h5 j hj).same (hu _ (getD_mem hj)).nl (fun k h6 h7 => h2 k (by omega))⟩
theorem fX.frP (h : fX d d1) (h2 : frP d1 d2) : fX d d2 :=
  ⟨fun k h3 h4 => by rw [h2 k (by omega)]; exact h.1 k h3 h4, fun j h3 h4 => by rw [h2 0 (by omega)]; exact h.2.1 j h3 h4, fun k h3 h4 => by rw [h2 k (by omega)]; exact h.2.2 k h3 h4⟩
theorem P_passDays {x : Int32} (h : St D d g us sv e f ln cs om os) (hD : D + 9 ≤ D') (hB : D' < 100000) : ok (f_W_passDays x d) (Pr (fun d => f_M_passDays x d) D') := by
  have hw := h.wf
  unfold f_W_passDays f_C_passDays
  simp only [J_lit]
  by_cases q : ∃ n, 1 ≤ n ∧ n ≤ 9 ∧ x = J n
  · rw [C_canPass.1 q, ob1_s, if_n n10, ok_ocW]
    obtain ⟨n, h1, h9, rfl⟩ := q
    refine rem_then h (fun d2 hS2 hc2 => ?_)
    rw [ok_ob2]
    refine ok_mono (C_letPass hS2 hw h9 (by omega)) (fun z hz => ?_)
    obtain ⟨z1, z2, z3⟩ := hz
    have hu := pushU_WF h.uw hw
    rw [ok_s, Sum.elim_inl, ok_bnd, ok_s, z1]
    refine pr_ok h (by omega) ((WF_dRN hw n).mono (by omega)) (hc2.1.frP hu z3) z2 ((fX.co hc2).frP z3) (fun hp => ?_)
    have := (M_passDays (x := J n) hp hw (by omega)).2 n h1 h9 rfl
    exact this
  · rw [C_canPass.2 q, ob1_s, if_p rfl, ok_ocW, ok_s, Sum.elim_inr]
    show ok (if (2 : Nat) = 2 then some (J 1, d) else none) _
    rw [if_p rfl, ok_s]
    exact pr_fail h (by omega) 1 (by decide) (by decide) (fun hp => (M_passDays hp hw (by omega)).1 q)
theorem law_passDays (h : St D d g us sv e f ln cs om os) (hi : i + 5 ≤ L) (hL : L ≤ 2560) (hD : D + 1 + 8 ≤ D') (hB : D' < 100000) : ok (f_W_law_794 L xs (J i) d) (fun y => ∃ d', y = .inl (J i + 5, d') ∧ Inv D' d') := by
  unfold f_W_law_794
  simp only [gdx1 hi hL]
  exact tail_i (P := Inv D') (P_passDays h hD hB)
end DAYM
