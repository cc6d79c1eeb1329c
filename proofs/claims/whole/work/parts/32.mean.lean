/-! 32: the law's cases: the mean brightness, the share of the guilty -/
section MEAN
variable {D D' : Nat} {d d1 d2 : Dt} {g g' : Nat → Nat} {us us' : List (Nat → Nat)} {sv : Option (Nat → Nat)} {e f : Int32} {ln : Nat} {cs : Nat → Nat} {om : Nat} {os : Nat → Nat} {L i : Nat} {xs : Nat → Int32} {b : Bool}
def bsum (g : Nat → Nat) : Nat → Nat
  | 0 => 0
  | n + 1 => bsum g n + g (13 + 11 * n)
theorem bsum_le (hw : WF D g) : ∀ n, n ≤ g 0 → bsum g n ≤ 9 * n := by
  intro n
  induction n with
  | zero => intro _; exact Nat.zero_le _
  | succ n ih =>
    intro h
    have := ih (by omega)
    have := (hw.2.1 n (by omega)).1
    show bsum g n + g (13 + 11 * n) ≤ 9 * (n + 1)
    omega
theorem C_bsum (hS : Sim d 2 g) (hw : WF D g) : f_L_brightnessSum d = some (J (bsum g (g 0))) := by
  have h8 := hw.nl
  have e3 : d 3 0 = J (g 0) := hS.nl
  apply ok_eq
  unfold f_L_brightnessSum f_L_brightnessSum_4
  simp only [J_lit]
  refine iter_up 0 (g 0) (fun n s => s = (J (bsum g n), J n)) rfl (by omega) (by omega) ?_ ?_
  · intro n s hn hs
    subst hs
    have e4 : d 4 n = J (g (13 + 11 * n)) := hS.bri hn
    unfold st_L_brightnessSum_4
    simp only [J_lit]
    rw [e3, if_n (fun q => by have := (J_le (by omega) (by omega)).mp q; omega), J_inb (by omega), gd_d (by omega), J_nat (by omega), e4, ok_s, J_add, J_add]
    exact Or.inl ⟨_, rfl, rfl⟩
  · intro s hs
    subst hs
    unfold st_L_brightnessSum_4
    simp only [J_lit]
    rw [e3, if_p ((J_le (by omega) (by omega)).mpr (Nat.le_refl _)), ok_ir, ok_s]
    exact ⟨_, rfl, rfl⟩
theorem M_mean27 (hr : rowN d 293 0 g) (hw : WF D g) (h0 : g 0 ≠ 0) : f_M_meanBrightness_27 (J 0) (J 0) d = some (FP.ddiv (FP.i2d (J (bsum g (g 0)))) (FP.i2d (J (g 0))), d) := by
  have h8 := hw.nl
  have e3 : d 293 0 = J (g 0) := hr.at (by decide)
  apply ok_eq
  unfold f_M_meanBrightness_27
  refine iter_up 0 (g 0) (fun n s => s = (J (bsum g n), J n)) rfl (by omega) (by omega) ?_ ?_
  · intro n s hn hs
    subst hs
    have e4 : d 293 (13 + 11 * n + 0) = J (g (13 + 11 * n)) := hr.at (by omega)
    unfold st_M_meanBrightness_27
    simp only [J_lit]
    rw [e3, if_n (fun q => by have := (J_le (by omega) (by omega)).mp q; omega), M_of (by omega) (by decide), ob1_s, e4, ok_s, J_add, J_add]
    exact Or.inl ⟨_, rfl, rfl⟩
  · intro s hs
    subst hs
    unfold st_M_meanBrightness_27
    simp only [J_lit]
    rw [e3, if_p ((J_le (by omega) (by omega)).mpr (Nat.le_refl _)), ok_ir, gd_t1 (vn_ddiv (show ¬ J (g 0) = 0 from J_ne h0 (by omega) (by decide))), ok_s]
    exact ⟨_, rfl, rfl⟩
theorem wrd_k {k k' : Nat} {v : UInt64} (h : k' ≠ k) : wrd d k v k' = d k' := wrf_k h
theorem wrd_v {k : Nat} {v : UInt64} : dblW (wrd d k v k 0) (wrd d k v k 1) = v := by
  have e0 : wrd d k v k 0 = loD v := by unfold wrd; rw [wrf_i]; rfl
  have e1 : wrd d k v k 1 = hiD v := by unfold wrd; rw [wrf_i]; rfl
  rw [e0, e1, dblW_lohi]
theorem fX_wrd {v : UInt64} : fX d (wrd d 301 v) :=
  ⟨fun k h1 h2 => wrd_k (by omega), fun j h1 h2 => by rw [wrd_k (by decide)], fun k h1 h2 => wrd_k (by omega)⟩
theorem St.dbl {v : UInt64} (h : St D d g us sv e f ln cs om os) (hm : MO (wrd d 301 v) d2 us g 0) : Inv D d2 := by
  have hH : HS (wrd d 301 v) us := by
    obtain ⟨h1, nu, h2, h3, h4⟩ := h.hs
    refine ⟨by rw [wrd_k (by decide)]; exact h1, nu, h2, by rw [wrd_k (by decide)]; exact h3, fun j hj => (h4 j hj).same (h.uw _ (getD_mem hj)).nl (fun k h5 h6 => wrd_k (by omega))⟩
  exact (h.change (Nat.le_refl D) h.wf ⟨h.ul, h.uw⟩ hH (h.sim.same h.wf.nl (fun k h5 h6 => wrd_k (by omega))) fX_wrd hm).inv
theorem law_mean (h : St D d g us sv e f ln cs om os) : ok (f_W_law_2347 L xs (J i) d) (fun y => ∃ d', y = .inl (J i + 5, d') ∧ Inv D d') := by
  have hw := h.wf
  have h8 := hw.nl
  have e3 : d 3 0 = J (g 0) := h.sim.nl
  unfold f_W_law_2347 f_W_meanBrightness f_C_meanBrightness
  rw [e3]
  by_cases q : g 0 = 0
  · rw [if_p (show J (g 0) = 0 by rw [q]; rfl)]
    show ok (ob2 (some (1, d)) _) _
    have hp := h.mp (fX_refl (d := d))
    have e5 : d 293 0 = J (g 0) := hp.1.at (by decide)
    unfold f_M_meanBrightness f_M_meanBrightness_15
    rw [ob2_s, e5, if_p (show J (g 0) = 0 by rw [q]; rfl), show f_M_fails 1 d = some (J 1, wr d 292 7 (J 1)) from M_fails (c := 1) (by decide), ob2_s, if_n (show ¬ J 1 = 0 from n10), ob2_s]
    have hm := MO_code hp.1 hp.2.1 1
    unfold f_M_thrown
    rw [ob1_s, hm.2.2.1, if_p (show J 1 = 1 from rfl), if_n (show ¬ (1 : Int32) = 0 by decide), ok_s]
    exact ⟨_, rfl, (h.change (Nat.le_refl D) hw ⟨h.ul, h.uw⟩ h.hs h.sim fX_refl hm).inv⟩
  · have hne : ¬ J (g 0) = 0 := J_ne q (by omega) (by decide)
    rw [if_n hne, C_bsum h.sim hw, ob1_s, gd_t1 (vn_ddiv hne)]
    show ok (ob2 (some (0, wrd d 301 (FP.ddiv (FP.i2d (J (bsum g (g 0)))) (FP.i2d (J (g 0)))))) _) _
    generalize hv : FP.ddiv (FP.i2d (J (bsum g (g 0)))) (FP.i2d (J (g 0))) = v
    rw [ob2_s]
    have hp := h.mp (fX_wrd (d := d) (v := v))
    have hm := MO_code hp.1 hp.2.1 0
    have e5 : (wrd d 301 v) 293 0 = J (g 0) := hp.1.at (by decide)
    have e6 := M_mean27 hm.2.1 hw q
    rw [hv] at e6
    unfold f_M_meanBrightness f_M_meanBrightness_15
    rw [e5, if_n hne, show f_M_fails 0 (wrd d 301 v) = some (J 0, wr (wrd d 301 v) 292 7 (J 0)) from M_fails (c := 0) (by decide), ob2_s, if_p (show J 0 = 0 from rfl), show f_M_meanBrightness_27 0 0 (wr (wrd d 301 v) 292 7 (J 0)) = _ from e6, ob2_s]
    unfold f_M_thrown
    have ev : dblW (wr (wrd d 301 v) 292 7 (J 0) 301 0) (wr (wrd d 301 v) 292 7 (J 0) 301 1) = v := by
      rw [wr_k (by decide)]
      exact wrd_v
    rw [ob1_s, hm.2.2.1, if_p (show J 0 = 0 from rfl), if_p rfl, ev]
    by_cases q2 : Op.cmpValue (FP.dcmp v v) .l = 0
    · rw [if_p q2, ok_s]
      exact ⟨_, rfl, h.dbl hm⟩
    · rw [if_n q2, if_n q2, if_n q2, ok_s]
      exact ⟨_, rfl, h.dbl hm⟩
theorem idx_g : f_JS_indexOf1 17 103 d = some (J 0) := by
  rw [JIu (Or.inl rfl), if_n (by decide), if_n (by decide)]
  apply ok_eq
  refine ok_mono (JIc (by decide)) (fun r hr => ?_)
  have hB : sB 17 0 = (103 : Int32).toInt8.toInt32 := by decide
  rcases hr with ⟨_, h2⟩ | ⟨k, hk, h1, h2, h3⟩
  · exact absurd hB (h2 0 (by decide))
  · by_cases hk0 : k = 0
    · rw [h1, hk0]
    · exact absurd hB (h3 0 (by omega))
theorem C_allHearings (hS : Sim d 2 g) : f_S_allHearings d = some (J (g 7 + g 8 + g 9 + g 10)) := by
  have e : ∀ v, v < 4 → d 26 v = J (g (7 + v)) := fun v hv => hS.hd hv
  apply ok_eq
  unfold f_S_allHearings f_S_allHearings_4
  simp only [J_lit]
  refine iter_up 0 4 (fun n s => s = (J (sums g 7 n), J n)) rfl (by decide) (by decide) ?_ ?_
  · intro n s hn hs
    subst hs
    unfold st_S_allHearings_4
    simp only [J_lit]
    rw [if_n (fun q => by have := (J_le (by decide) (by omega)).mp q; omega), J_inb (by omega), gd_d (by omega), J_nat (by omega), e n hn, ok_s, J_add, J_add]
    exact Or.inl ⟨_, rfl, rfl⟩
  · intro s hs
    subst hs
    unfold st_S_allHearings_4
    simp only [J_lit]
    rw [if_p ((J_le (by decide) (by decide)).mpr (Nat.le_refl _)), ok_ir, ok_s]
    refine ⟨_, rfl, ?_⟩
    show J (0 + g 7 + g 8 + g 9 + g 10) = _
    rw [Nat.zero_add]
theorem law_share (h : St D d g us sv e f ln cs om os) : ok (f_W_law_2412 L xs (J i) d) (fun y => ∃ d', y = .inl (J i + 5, d') ∧ Inv D d') := by
  have hw := h.wf
  have e26 : d 26 0 = J (g 7) := h.sim.hd (v := 0) (by decide)
  have tot : ∀ {d1 : Dt}, rowN d1 293 0 g → d1 293 7 + d1 293 8 + d1 293 9 + d1 293 10 = J (g 7 + g 8 + g 9 + g 10) := fun hr => by rw [hr.at (by decide), hr.at (by decide), hr.at (by decide), hr.at (by decide), J_add, J_add, J_add]
  unfold f_W_law_2412 f_W_guiltyShare f_C_guiltyShare
  rw [C_allHearings h.sim, ob1_s]
  by_cases q : J (g 7 + g 8 + g 9 + g 10) = 0
  · rw [if_p q]
    show ok (ob2 (some (1, d)) _) _
    have hp := h.mp (fX_refl (d := d))
    unfold f_M_guiltyShare f_M_guiltyShare_42
    rw [ob2_s, tot hp.1, if_p q, show f_M_fails 1 d = some (J 1, wr d 292 7 (J 1)) from M_fails (c := 1) (by decide), ob2_s, if_n (show ¬ J 1 = 0 from n10), ob2_s]
    have hm := MO_code hp.1 hp.2.1 1
    unfold f_M_thrown
    rw [ob1_s, hm.2.2.1, if_p (show J 1 = 1 from rfl), if_n (show ¬ (1 : Int32) = 0 by decide), ok_s]
    exact ⟨_, rfl, (h.change (Nat.le_refl D) hw ⟨h.ul, h.uw⟩ h.hs h.sim fX_refl hm).inv⟩
  · obtain ⟨w1, w2⟩ := f2d_div (x := J (g 7)) q
    have w3 := vn_fdiv (x := J (g 7)) q
    have ec : f_C_hearingCount 103 d = some (.inl (J (g 7))) := by
      unfold f_C_hearingCount
      rw [idx_g, ob1_s, if_n (show ¬ J 0 < 0 by decide), if_p (show J 0 < 4 by decide), show inb (J 0) 4 = true by decide]
      show some (Sum.inl (d 26 0)) = _
      rw [e26]
    rw [if_n q, ec]
    show ok (ob2 (ocRF (gd (vn32 (FP.fdiv (FP.i2f (J (g 7))) (FP.i2f (J (g 7 + g 8 + g 9 + g 10))))) <| some (Sum.inl (FP.fdiv (FP.i2f (J (g 7))) (FP.i2f (J (g 7 + g 8 + g 9 + g 10)))))) _ _) _) _
    rw [gd_t1 w3]
    generalize hr : FP.fdiv (FP.i2f (J (g 7))) (FP.i2f (J (g 7 + g 8 + g 9 + g 10))) = r at w1 w2 w3 ⊢
    show ok (ob2 (gd (vn64 (FP.f2d r)) <| some (0, wrd d 301 (FP.f2d r))) _) _
    rw [gd_t1 w1, ob2_s]
    have hp := h.mp (fX_wrd (d := d) (v := FP.f2d r))
    have hm := MO_code hp.1 hp.2.1 0
    have e7 : (wr (wrd d 301 (FP.f2d r)) 292 7 (J 0)) 293 7 = J (g 7) := hm.2.1.at (by decide)
    unfold f_M_guiltyShare f_M_guiltyShare_42
    rw [tot hp.1, if_n q, show f_M_fails 0 (wrd d 301 (FP.f2d r)) = some (J 0, wr (wrd d 301 (FP.f2d r)) 292 7 (J 0)) from M_fails (c := 0) (by decide), ob2_s, if_p (show J 0 = 0 from rfl), e7, hr, gd_t1 w3, ob2_s]
    have ev : dblW (wr (wrd d 301 (FP.f2d r)) 292 7 (J 0) 301 0) (wr (wrd d 301 (FP.f2d r)) 292 7 (J 0) 301 1) = FP.f2d r := by
      rw [wr_k (by decide)]
      exact wrd_v
    unfold f_M_thrown
    rw [ob1_s, hm.2.2.1, if_p (show J 0 = 0 from rfl), if_p rfl, gd_t1 w1, ev, if_p w2, ok_s]
    exact ⟨_, rfl, h.dbl hm⟩
end MEAN
