/-! 54: the law's case isConsistent -/
section CONS
variable {D D' : Nat} {d d1 d2 : Dt} {g g' l s c : Nat → Nat} {us us' : List (Nat → Nat)} {sv : Option (Nat → Nat)} {e f : Int32} {ln : Nat} {cs : Nat → Nat} {om : Nat} {os : Nat → Nat} {L i : Nat} {xs : Nat → Int32} {x : Nat} {S : Nat → Prop}
theorem scr.trans (h : scr d d1) (h2 : scr d1 d2) : scr d d2 := fun k hk => (h2 k hk).trans (h k hk)
theorem R_verd (hS : Sim d 2 g) (hw : WG g) (hx : x < g 0) : ok (f_R_verdictOn (J x) d) (fun z => z.1 = J (vrc g x) ∧ ∀ k, k ≠ 286 → z.2 k = d k) := by
  unfold f_R_verdictOn
  simp only [J_lit]
  rw [ok_ob1]
  refine ok_mono (R_read hS hw) (fun d3 h3 => ?_)
  have hs : scr d d3 := fun k hk => h3.2 k (by omega)
  have hS3 := hs.sim hS hw
  rw [C_connected hS3 hw hx, ob1_s, R_judge hS3 h3.1 hw hx, ok_s]
  exact ⟨rfl, h3.2⟩
theorem C_agree (hS : Sim d 2 g) (hw : WG g) : ok (f_C_doVerdictsAgree d) (fun z => z.1 = J 1 ∧ scr d z.2) := by
  have h8 := hw.nl
  unfold f_C_doVerdictsAgree
  simp only [J_lit]
  rw [ok_ob1]
  refine ok_mono (G_find hS hw) (fun d3 h3 => ?_)
  obtain ⟨⟨l, s, c, hF⟩, hfr⟩ := h3
  unfold f_C_doVerdictsAgree_24
  refine iter_up 0 (g 0) (fun n z => ∃ d5, z = (J n, d5) ∧ GF d5 g l s c (seen (-J 1) (g 4)) ∧ scr d d5) ⟨d3, rfl, hF, GF_scr hfr⟩ (Nat.zero_le _) (by omega) ?_ ?_
  · intro n z hn hz
    obtain ⟨d5, rfl, z1, z2⟩ := hz
    have S5 := z2.sim hS hw
    have c3 : d5 3 0 = J (g 0) := S5.nl
    have e1 : anyN (r1 g n) (2 ^ g 0) = mayB g l s c (l n) (true ^^ (s n == 1)) := rv_eq hw (seen_all hw.ns) z1.2.1 hn
    have e0 : anyN (r0 g n) (2 ^ g 0) = mayB g l s c (l n) (false ^^ (s n == 1)) := rv_eq hw (seen_all hw.ns) z1.2.1 hn
    unfold st_C_doVerdictsAgree_24
    simp only [J_lit]
    rw [c3, if_n (fun q => by have := (J_le (by omega) (by omega)).mp q; omega), G_verdictOn z1 hn, ob1_s, ok_ob2]
    refine ok_mono (R_verd S5 hw hn) (fun y hy => ?_)
    rw [hy.1, ← e1, ← e0, show J (vdc (anyN (r1 g n) (2 ^ g 0)) (anyN (r0 g n) (2 ^ g 0))) = J (vrc g n) from rfl, if_p rfl, ok_s, J_add]
    refine Or.inl ⟨_, rfl, y.2, rfl, ⟨z1.1.same (fun k h1 h2 => hy.2 k (by omega)), z1.2.1, fun r hr => by rw [hy.2 285 (by decide)]; exact z1.2.2 r hr⟩, fun k hk => by rw [hy.2 k (by omega)]; exact z2 k hk⟩
  · intro z hz
    obtain ⟨d5, rfl, z1, z2⟩ := hz
    have c3 : d5 3 0 = J (g 0) := (z2.sim hS hw).nl
    unfold st_C_doVerdictsAgree_24
    simp only [J_lit]
    rw [c3, if_p ((J_le (by omega) (by omega)).mpr (Nat.le_refl _)), ok_ir, ok_s]
    exact ⟨_, rfl, rfl, z2⟩
theorem C_cons (hS : Sim d 2 g) (hw : WF D g) (hD : D < 100000) : ok (f_C_isConsistent d) (fun z => z.1 = J 1 ∧ scr d z.2) := by
  have hg := hw.wg
  unfold f_C_isConsistent
  simp only [J_lit]
  rw [ok_ob2]
  refine ok_mono (C_planFee hS hw hD) (fun z1 h1 => ?_)
  rw [ok_ob2]
  refine ok_mono (C_planFeeBySets (h1.2.sim hS hg) hw hD) (fun z2 h2 => ?_)
  have s2 := h1.2.trans h2.2
  rw [h1.1, h2.1, if_p rfl, ok_ob2]
  refine ok_mono (C_agree (s2.sim hS hg) hg) (fun z3 h3 => ?_)
  have s3 := s2.trans h3.2
  rw [h3.1, if_n n10, ok_ob2]
  refine ok_mono (C_explan (s3.sim hS hg) hg) (fun z4 h4 => ?_)
  have s4 := s3.trans h4.2
  rw [ok_ob2]
  refine ok_mono (C_byTrial (s4.sim hS hg) hg) (fun z5 h5 => ?_)
  have s5 := s4.trans h5.2
  rw [h4.1, h5.1, if_p rfl, ok_ob2]
  refine ok_mono (C_leastFalse (s5.sim hS hg) hg) (fun z6 h6 => ?_)
  have s6 := s5.trans h6.2
  rw [ok_ob2]
  refine ok_mono (C_bySets (s6.sim hS hg) hg) (fun z7 h7 => ?_)
  rw [h6.1, h7.1, if_p rfl, ok_s]
  exact ⟨rfl, s6.trans h7.2⟩
theorem law_isConsistent (h : St D d g us sv e f ln cs om os) (hD : D < 100000) : ok (f_W_law_2478 L xs (J i) d) (fun y => ∃ d', y = .inl (J i + 5, d') ∧ Inv D d') := by
  refine tail_s (c := 0) h (C_cons h.sim h.wf hD) (fun d1 hs hp => ?_)
  have hm := MO_code hp.1 hp.2.1 0
  show ok (some (J 1, wr d1 292 7 (J 0))) _
  rw [ok_s]
  exact ⟨rfl, hm⟩
end CONS
