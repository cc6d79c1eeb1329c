/-! 23: the law's cases: changes of the state -/
/-- cells that a change leaves -/
def fX (d d1 : Dt) : Prop := (∀ k, 52 ≤ k → k < 77 → d1 k = d k) ∧ (∀ j, j ≠ 9 → j ≠ 10 → d1 0 j = d 0 j) ∧ ∀ k, 287 ≤ k → k < 299 → d1 k = d k
theorem fX_refl {d : Dt} : fX d d := ⟨fun _ _ _ => rfl, fun _ _ _ => rfl, fun _ _ _ => rfl⟩
theorem fX.w300 {d d1 : Dt} {v : Int32} (h : fX d d1) : fX d (wr d1 300 0 v) :=
  ⟨fun k h1 h2 => by rw [wr_k (by omega)]; exact h.1 k h1 h2, fun j h1 h2 => by rw [wr_k (by decide)]; exact h.2.1 j h1 h2, fun k h1 h2 => by rw [wr_k (by omega)]; exact h.2.2 k h1 h2⟩
theorem Sim.w300 {d : Dt} {a : Nat} {g : Nat → Nat} {v : Int32} (h : Sim d a g) (h8 : g 0 ≤ 8) (ha : a + 25 ≤ 300) : Sim (wr d 300 0 v) a g := h.same h8 (fun k h1 h2 => wr_k (by omega))
theorem HS.w300 {D : Nat} {d : Dt} {us : List (Nat → Nat)} {v : Int32} (h : HS d us) (hu : ∀ u ∈ us, WF D u) : HS (wr d 300 0 v) us := by
  obtain ⟨h1, nu, h2, h3, h4⟩ := h
  refine ⟨by rw [wr_k (by decide)]; exact h1, nu, h2, by rw [wr_k (by decide)]; exact h3, fun j hj => (h4 j hj).w300 (hu _ (getD_mem hj)).nl (by omega)⟩
theorem fX.co {d d1 : Dt} {us : List (Nat → Nat)} {g : Nat → Nat} (h : CO d d1 us g) : fX d d1 :=
  ⟨fun k h1 h2 => h.2.2.1 k (by omega) (by omega) (by omega), fun j h1 h2 => h.2.2.2 j h1 h2, fun k h1 h2 => h.2.2.1 k (by omega) (by omega) (by omega)⟩
theorem fX.then2 {d d1 d2 : Dt} (h : fX d d1) (h2 : fr2 d1 d2) : fX d d2 :=
  ⟨fun k h3 h4 => by rw [h2 k (by omega)]; exact h.1 k h3 h4, fun j h3 h4 => by rw [h2 0 (by omega)]; exact h.2.1 j h3 h4, fun k h3 h4 => by rw [h2 k (by omega)]; exact h.2.2 k h3 h4⟩
theorem HS.then2 {D : Nat} {d d1 : Dt} {us : List (Nat → Nat)} (h : HS d us) (hu : ∀ u ∈ us, WF D u) (h2 : fr2 d d1) : HS d1 us := by
  obtain ⟨h1, nu, h3, h4, h5⟩ := h
  refine ⟨by rw [h2 0 (by omega)]; exact h1, nu, h3, by rw [h2 0 (by omega)]; exact h4, fun j hj => (h5 j hj).same (hu _ (getD_mem hj)).nl (fun k h6 h7 => h2 k (by omega))⟩
theorem pushU_WF {D : Nat} {us : List (Nat → Nat)} {g : Nat → Nat} (hu : ∀ u ∈ us, WF D u) (hg : WF D g) : ∀ u ∈ pushU us g, WF D u := by
  intro u h
  unfold pushU at h
  rcases List.mem_append.mp h with h | h
  · by_cases h8 : us.length = 8
    · rw [if_pos h8] at h
      exact hu u (List.mem_of_mem_tail h)
    · rw [if_neg h8] at h
      exact hu u h
  · rw [List.mem_singleton] at h
    rw [h]
    exact hg
/-- everything known at a call's begin -/
def St (D : Nat) (d : Dt) (g : Nat → Nat) (us : List (Nat → Nat)) (sv : Option (Nat → Nat)) (e f : Int32) (ln : Nat) (cs : Nat → Nat) (om : Nat) (os : Nat → Nat) : Prop :=
  WF D g ∧ WR D us sv e f ln cs om os ∧ Sim d 2 g ∧ CR d us sv e f ln cs om os ∧ rowN d 293 0 g ∧ MR d us sv e f ln cs om os
section CASE
variable {D D' : Nat} {d d1 d2 : Dt} {g g' : Nat → Nat} {us us' : List (Nat → Nat)} {sv : Option (Nat → Nat)} {e f : Int32} {ln : Nat} {cs : Nat → Nat} {om : Nat} {os : Nat → Nat} {c : Nat}
theorem St.inv (h : St D d g us sv e f ln cs om os) : Inv D d := ⟨g, us, sv, e, f, ln, cs, om, os, h⟩
theorem St.hs (h : St D d g us sv e f ln cs om os) : HS d us := h.2.2.2.1.1
theorem St.kp (h : St D d g us sv e f ln cs om os) : KP d us := h.2.2.2.2.2.1
theorem St.wf (h : St D d g us sv e f ln cs om os) : WF D g := h.1
theorem St.sim (h : St D d g us sv e f ln cs om os) : Sim d 2 g := h.2.2.1
theorem St.row (h : St D d g us sv e f ln cs om os) : rowN d 293 0 g := h.2.2.2.2.1
theorem St.uw (h : St D d g us sv e f ln cs om os) : ∀ u ∈ us, WF D u := h.2.1.1.2
theorem St.ul (h : St D d g us sv e f ln cs om os) : us.length ≤ 8 := h.2.1.1.1
theorem St.mp (h : St D d g us sv e f ln cs om os) (hf : fX d d1) : MP d1 us g false := by
  have q : ∀ k, 292 ≤ k → k < 299 → d1 k = d k := fun k h1 h2 => hf.2.2 k (by omega) h2
  refine ⟨rowN_cong h.row (q 293 (by decide) (by decide)), ⟨?_, fun j hj => rowN_cong (h.kp.2 j hj) (q 294 (by decide) (by decide))⟩, h.ul, ?_⟩
  · rw [q 292 (by decide) (by decide)]; exact h.kp.1
  · rw [q 292 (by decide) (by decide)]; exact h.2.2.2.2.2.2.2.2.2.2.2
/-- after a change on both sides -/
theorem St.change (h : St D d g us sv e f ln cs om os) (hD : D ≤ D') (hw : WF D' g') (hu : us'.length ≤ 8 ∧ ∀ u ∈ us', WF D' u) (hH : HS d1 us') (hS : Sim d1 2 g') (hf : fX d d1) (hm : MO d1 d2 us' g' c) : St D' d2 g' us' sv e f ln cs om os := by
  have q2 : ∀ k, k < 292 → d2 k = d1 k := fun k hk => hm.2.2.2.1 k (by omega) (by omega) (by omega)
  have q : ∀ k, 287 ≤ k → k < 299 → d1 k = d k := hf.2.2
  obtain ⟨h1, h2, h3, h4, h5, h6⟩ := h
  obtain ⟨b1, b2, b3, b4, b5, b6, b7⟩ := h4
  obtain ⟨c1, c2, c3, c4, c5, c6, c7⟩ := h6
  refine ⟨hw, ⟨hu, (h2.mono hD).2⟩, hS.same hw.nl (fun k h7 h8 => q2 k (by omega)), ⟨?_, ?_, ?_, ?_, ?_, ?_, ?_⟩, hm.2.1, ⟨hm.1, ?_, ?_, ?_, ?_, ?_, ?_⟩⟩
  · obtain ⟨a1, nu, a2, a3, a4⟩ := hH
    refine ⟨by rw [q2 0 (by decide)]; exact a1, nu, a2, by rw [q2 0 (by decide)]; exact a3, fun j hj => (a4 j hj).same (hu.2 _ (getD_mem hj)).nl (fun k h7 h8 => q2 k (by omega))⟩
  · refine ⟨by rw [q2 0 (by decide), hf.2.1 11 (by decide) (by decide)]; exact b2.1, fun s hs => (b2.2 s hs).same (h2.2.1 s hs).nl (fun k h7 h8 => by rw [q2 k (by omega), hf.1 k (by omega) (by omega)])⟩
  · rw [q2 0 (by decide), hf.2.1 12 (by decide) (by decide)]; exact b3
  · rw [q2 0 (by decide), hf.2.1 13 (by decide) (by decide)]; exact b4
  · rw [q2 287 (by decide), q2 288 (by decide), q 287 (by decide) (by decide), q 288 (by decide) (by decide)]; exact b5
  · rw [q2 290 (by decide), q2 291 (by decide), q 290 (by decide) (by decide), q 291 (by decide) (by decide)]; exact b6
  · rw [q2 287 (by decide), q 287 (by decide) (by decide)]; exact b7
  · refine ⟨by rw [hm.2.2.2.2 4 (by decide) (by decide), q 292 (by decide) (by decide)]; exact c2.1, fun s hs => rowN_cong (c2.2 s hs) (by rw [hm.2.2.2.1 295 (by decide) (by decide) (by decide), q 295 (by decide) (by decide)])⟩
  · rw [hm.2.2.2.2 10 (by decide) (by decide), q 292 (by decide) (by decide)]; exact c3
  · rw [hm.2.2.2.2 11 (by decide) (by decide), q 292 (by decide) (by decide)]; exact c4
  · rw [hm.2.2.2.2 9 (by decide) (by decide), hm.2.2.2.1 297 (by decide) (by decide) (by decide), q 292 (by decide) (by decide), q 297 (by decide) (by decide)]; exact c5
  · rw [hm.2.2.2.2 13 (by decide) (by decide), hm.2.2.2.1 298 (by decide) (by decide) (by decide), q 292 (by decide) (by decide), q 298 (by decide) (by decide)]; exact c6
  · rw [hm.2.2.2.2 6 (by decide) (by decide), q 292 (by decide) (by decide)]; exact c7
/-- the stage of a case: class, reference, the same code, the same answer -/
theorem tail_i {x5 : Int32} {W : Option (Int32 × Dt)} {M : Dt → Option (Int32 × Dt)} {P : Dt → Prop} (h : ok W (fun z => ∃ c, c < 10 ∧ z.1 = J c ∧ ok (M z.2) (fun u => u.2 292 7 = J c ∧ (c = 0 → u.2 300 0 = u.1) ∧ P u.2))) : ok (ob2 W fun r1 d2 => ob2 (M d2) fun r3 d4 => ob1 (f_M_thrown d4) fun r5 => if r5 = r1 then if r1 = 0 then if (d4 300 0) = r3 then some (.inl ((x5 + 5), d4)) else ir (some ((0 : Int32), d4)) else some (.inl ((x5 + 5), d4)) else ir (some (0, d4))) (fun y => ∃ d', y = .inl (x5 + 5, d') ∧ P d') := by
  rw [ok_ob2]
  refine ok_mono h (fun z hz => ?_)
  obtain ⟨c, hc, hz1, hz2⟩ := hz
  rw [ok_ob2]
  refine ok_mono hz2 (fun u hu => ?_)
  obtain ⟨u1, u2, u3⟩ := hu
  unfold f_M_thrown
  rw [ob1_s, u1, hz1, if_p rfl]
  by_cases h0 : c = 0
  · rw [h0, if_p (show J 0 = 0 from rfl), if_p (u2 h0), ok_s]
    exact ⟨_, rfl, u3⟩
  · rw [if_n (show ¬ J c = 0 from J_ne h0 (by omega) (by decide)), ok_s]
    exact ⟨_, rfl, u3⟩
theorem law_addLantern {L : Nat} {xs : Nat → Int32} {x5 : Int32} (h : St D d g us sv e f ln cs om os) : ok (f_W_law_296 L xs x5 d) (fun y => ∃ d', y = .inl (x5 + 5, d') ∧ Inv D d') := by
  unfold f_W_law_296
  refine tail_i (P := Inv D) ?_
  have hw := h.wf
  have h8 := hw.nl
  have e3 : d 3 0 = J (g 0) := h.sim.nl
  unfold f_W_addLantern f_C_addLantern f_L_isFull
  simp only [J_lit]
  by_cases hf : g 0 = 8
  · rw [e3, if_n (fun q => by have := (J_lt (by omega) (by omega)).mp q; omega), ob1_s, if_n (J_ne (by decide) (by decide) (by decide))]
    show ok (if (0 : Nat) = 0 then some (J 1, d) else none) _
    rw [if_p rfl, ok_s]
    refine ⟨1, by decide, rfl, ok_mono ((M_addLantern (h.mp fX_refl) h8).1 hf) (fun u hu => ⟨hu.2.2.1, fun q => absurd q (by decide), (h.change (Nat.le_refl D) hw ⟨h.ul, h.uw⟩ h.hs h.sim fX_refl hu).inv⟩)⟩
  · rw [e3, if_p ((J_lt (by omega) (by omega)).mpr (by omega)), ob1_s, if_p rfl, ok_ocW, ok_ob1]
    refine ok_mono (C_remember hw h.uw h.ul h.sim h.hs) (fun d2 h2 => ?_)
    rw [ok_ob2]
    refine ok_mono (C_L_add h2.2.1 hw (by omega)) (fun z hz => ?_)
    obtain ⟨z1, z2, z3⟩ := hz
    rw [ok_s, Sum.elim_inl, ok_bnd, ok_s]
    have hpw := pushU_WF h.uw hw
    have hfx : fX d (wr z.2 300 0 z.1) := ((fX.co h2).then2 z3).w300
    refine ⟨0, by decide, rfl, ok_mono ((M_addLantern (h.mp hfx) h8).2 (by omega)) (fun u hu => ⟨hu.2.2.2.1, fun _ => ?_, (h.change (Nat.le_refl D) (WF_add hw (by omega)) ⟨pushU_len h.ul, hpw⟩ ((h2.1.then2 hpw z3).w300 hpw) (z2.w300 (WF_add hw (by omega)).nl (by decide)) hfx hu.2).inv⟩)⟩
    rw [hu.2.2.2.2.1 300 (by decide) (by decide) (by decide), wr_s, z1, hu.1]
end CASE
