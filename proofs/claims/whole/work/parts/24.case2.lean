/-! 24: the law's cases: the other changes -/
section CASE2
variable {D D' : Nat} {d d1 d2 : Dt} {g g' : Nat → Nat} {us us' : List (Nat → Nat)} {sv : Option (Nat → Nat)} {e f : Int32} {ln : Nat} {cs : Nat → Nat} {om : Nat} {os : Nat → Nat} {c : Nat}
theorem C_has {x : Int32} (hS : Sim d 2 g) (h8 : g 0 ≤ 8) : (isIn (g 0) x → f_L_has x d = some (J 1)) ∧ (¬ isIn (g 0) x → f_L_has x d = some (J 0)) := by
  have e3 : d 3 0 = J (g 0) := hS.nl
  unfold f_L_has
  rw [e3]
  rcases J_cases x with hx | ⟨k, hk, rfl⟩
  · refine ⟨fun ⟨k, h1, h2⟩ => ?_, fun _ => if_pos hx⟩
    rw [h2] at hx
    exact absurd hx (J_neg (by omega))
  · rw [if_neg (show ¬ J k < (0 : Int32) from J_neg hk)]
    refine ⟨fun ⟨k', h1, h2⟩ => ?_, fun h => ?_⟩
    · have h3 := (J_inj hk (by omega)).mp h2
      rw [if_neg (fun q => by have := (J_le (by omega) hk).mp q; omega)]
      rfl
    · rw [if_pos ((J_le (by omega) hk).mpr (Nat.not_lt.mp fun q => h ⟨k, q, rfl⟩))]
      rfl
theorem C_hasT {x : Int32} (hS : Sim d 2 g) (h8 : g 4 ≤ 12) : (isIn (g 4) x → f_T_has x d = some (J 1)) ∧ (¬ isIn (g 4) x → f_T_has x d = some (J 0)) := by
  have e3 : d 22 0 = J (g 4) := hS.ns
  unfold f_T_has
  rw [e3]
  rcases J_cases x with hx | ⟨k, hk, rfl⟩
  · refine ⟨fun ⟨k, h1, h2⟩ => ?_, fun _ => if_pos hx⟩
    rw [h2] at hx
    exact absurd hx (J_neg (by omega))
  · rw [if_neg (show ¬ J k < (0 : Int32) from J_neg hk)]
    refine ⟨fun ⟨k', h1, h2⟩ => ?_, fun h => ?_⟩
    · have h3 := (J_inj hk (by omega)).mp h2
      rw [if_neg (fun q => by have := (J_le (by omega) hk).mp q; omega)]
      rfl
    · rw [if_pos ((J_le (by omega) hk).mpr (Nat.not_lt.mp fun q => h ⟨k, q, rfl⟩))]
      rfl
theorem n10 : ¬ J 1 = J 0 := J_ne (by decide) (by decide) (by decide)
theorem C_checkL {x : Int32} (hS : Sim d 2 g) (h8 : g 0 ≤ 8) : (isIn (g 0) x → f_C_checkLantern x d = some (.inl ())) ∧ (¬ isIn (g 0) x → f_C_checkLantern x d = some (.inr 1)) := by
  unfold f_C_checkLantern
  simp only [J_lit]
  refine ⟨fun q => ?_, fun q => ?_⟩
  · rw [(C_has hS h8).1 q, ob1_s, if_n n10]
  · rw [(C_has hS h8).2 q, ob1_s, if_p rfl]
theorem C_checkT {x : Int32} (hS : Sim d 2 g) (h8 : g 4 ≤ 12) : (isIn (g 4) x → f_C_checkStatement x d = some (.inl ())) ∧ (¬ isIn (g 4) x → f_C_checkStatement x d = some (.inr 1)) := by
  unfold f_C_checkStatement
  simp only [J_lit]
  refine ⟨fun q => ?_, fun q => ?_⟩
  · rw [(C_hasT hS h8).1 q, ob1_s, if_n n10]
  · rw [(C_hasT hS h8).2 q, ob1_s, if_p rfl]
theorem C_positionOf {x : Int32} (hS : Sim d 2 g) (hw : WF D g) (hD : D < 100000) : (∀ k, k < g 3 → x = J (g (101 + 5 * k)) → f_B_positionOf x d = some (J k)) ∧ ((∀ k, k < g 3 → x ≠ J (g (101 + 5 * k))) → f_B_positionOf x d = some (-J 1)) := by
  have h10 := hw.nb
  have e16 : d 16 0 = J (g 3) := hS.nb
  have eid : ∀ k, k < g 3 → d 17 k = J (g (101 + 5 * k)) := fun k hk => hS.bid hk
  have hid : ∀ k, k < g 3 → g (101 + 5 * k) < 100000 := fun k hk => by
    have := (hw.br hk).1
    have := hw.nx
    omega
  have body : ∀ i, i < g 3 → ∀ {Q}, (x = J (g (101 + 5 * i)) → Q (Sum.inr (J i))) → (x ≠ J (g (101 + 5 * i)) → Q (Sum.inl (J (i + 1)))) → ok (st_B_positionOf_2 x (J i) d) Q := by
    intro i hi Q h1 h2
    unfold st_B_positionOf_2
    simp only [J_lit]
    rw [e16, if_n (fun q => by have := (J_le (by omega) (by omega)).mp q; omega), J_inb (by omega), gd_d (by omega), J_nat (by omega), eid i hi]
    by_cases eq : J (g (101 + 5 * i)) = x
    · rw [if_p eq, ok_ir, ok_s]
      exact h1 eq.symm
    · rw [if_n eq, ok_s, J_add]
      exact h2 (fun q => eq q.symm)
  unfold f_B_positionOf f_B_positionOf_2
  simp only [J_lit]
  refine ⟨fun k hk ek => ?_, fun h => ?_⟩
  · apply ok_eq
    refine iter_up 0 k (fun i s => s = J i) rfl (by omega) (by omega) ?_ ?_
    · intro i s hi hs
      subst hs
      refine body i (by omega) (fun q => ?_) (fun q => ?_)
      · rw [ek] at q
        have := (J_inj (by have := hid k hk; omega) (by have := hid i (by omega); omega)).mp q
        have := hw.ids hi hk
        omega
      · exact Or.inl ⟨_, rfl, rfl⟩
    · intro s hs
      subst hs
      refine body k hk (fun q => ⟨_, rfl, rfl⟩) (fun q => absurd ek q)
  · apply ok_eq
    refine iter_up 0 (g 3) (fun i s => s = J i) rfl (by omega) (by omega) ?_ ?_
    · intro i s hi hs
      subst hs
      refine body i hi (fun q => absurd q (h i hi)) (fun q => Or.inl ⟨_, rfl, rfl⟩)
    · intro s hs
      subst hs
      unfold st_B_positionOf_2
      simp only [J_lit]
      rw [e16, if_p ((J_le (by omega) (by omega)).mpr (Nat.le_refl _)), ok_ir, ok_s]
      exact ⟨_, rfl, rfl⟩
/-- what a case asks of the reference behind the class -/
def Pr (M : Dt → Option (Int32 × Dt)) (D' : Nat) (z : Int32 × Dt) : Prop := ∃ c, c < 10 ∧ z.1 = J c ∧ ok (M z.2) (fun u => u.2 292 7 = J c ∧ (c = 0 → u.2 300 0 = u.1) ∧ Inv D' u.2)
theorem pr_fail {M : Dt → Option (Int32 × Dt)} (h : St D d g us sv e f ln cs om os) (hD : D ≤ D') (c : Nat) (hc : c < 10) (h1 : 1 ≤ c) (hM : MP d us g false → ok (M d) (fun z => MO d z.2 us g c)) : Pr M D' (J c, d) :=
  ⟨c, hc, rfl, ok_mono (hM (h.mp fX_refl)) (fun u hu => ⟨hu.2.2.1, fun q => absurd q (by omega), (h.change hD (h.wf.mono hD) ⟨h.ul, fun u hu => (h.uw u hu).mono hD⟩ h.hs h.sim fX_refl hu).inv⟩)⟩
theorem pr_ok {M : Dt → Option (Int32 × Dt)} {v : Int32} (h : St D d g us sv e f ln cs om os) (hD : D ≤ D') (hw : WF D' g') (hH : HS d1 (pushU us g)) (hS : Sim d1 2 g') (hf : fX d d1) (hM : MP (wr d1 300 0 v) us g false → ok (M (wr d1 300 0 v)) (fun z => z.1 = v ∧ MO (wr d1 300 0 v) z.2 (pushU us g) g' 0)) : Pr M D' (J 0, wr d1 300 0 v) := by
  have hu : ∀ u ∈ pushU us g, WF D' u := fun u hu => (pushU_WF h.uw h.wf u hu).mono hD
  refine ⟨0, by decide, rfl, ok_mono (hM (h.mp hf.w300)) (fun u hm => ⟨hm.2.2.2.1, fun _ => ?_, (h.change hD hw ⟨pushU_len h.ul, hu⟩ (hH.w300 hu) (hS.w300 hw.nl (by decide)) hf.w300 hm.2).inv⟩)⟩
  rw [hm.2.2.2.2.1 300 (by decide) (by decide) (by decide), wr_s, hm.1]
/-- remember, then a change of the present state -/
theorem rem_then {X : Type} {K : Dt → Option X} {Q : X → Prop} (h : St D d g us sv e f ln cs om os) (hK : ∀ d2, Sim d2 2 g → CO d d2 (pushU us g) g → ok (K d2) Q) : ok (ob1 (f_C_remember d) K) Q := by
  rw [ok_ob1]
  exact ok_mono (C_remember h.wf h.uw h.ul h.sim h.hs) (fun d2 h2 => hK d2 h2.2.1 h2)
theorem co_then {d3 : Dt} (h : St D d g us sv e f ln cs om os) (h2 : CO d d2 (pushU us g) g) (h3 : fr2 d2 d3) : HS d3 (pushU us g) ∧ fX d d3 :=
  ⟨h2.1.then2 (pushU_WF h.uw h.wf) h3, (fX.co h2).then2 h3⟩
theorem P_file {x n f1 s : Int32} (h : St D d g us sv e f ln cs om os) (hD : D + 1 ≤ D') (hD2 : D' < 100000) : ok (f_W_file x n f1 s d) (Pr (fun d => f_M_file x n f1 s d) D') := by
  have hw := h.wf
  have h8 := hw.nl
  have h10 := hw.nb
  have hx := hw.nx
  have e16 : d 16 0 = J (g 3) := h.sim.nb
  unfold f_W_file f_C_file
  simp only [J_lit]
  by_cases q1 : isIn (g 0) x
  · rw [(C_checkL h.sim h8).1 q1, ok_ocW, ok_ocU, ok_s, Sum.elim_inl]
    have rng : ∀ {a b : Nat} {y : Int32}, a < 1000 → b < 1000 → ((∃ k, a ≤ k ∧ k ≤ b ∧ y = J k) ↔ (¬ y < J a ∧ ¬ J b < y)) := by
      intro a b y ha hb
      rcases J_cases y with hy | ⟨k, hk, rfl⟩
      · refine ⟨fun ⟨k, h1, h2, h3⟩ => ?_, fun ⟨h1, h2⟩ => ?_⟩
        · rw [h3] at hy
          exact absurd hy (J_neg (by omega))
        · exfalso
          apply h1
          rw [Int32.lt_iff_toInt_lt, J_toInt (by omega)]
          have := Int32.lt_iff_toInt_lt.mp hy
          have h0 : (0 : Int32).toInt = 0 := by decide
          omega
      · rw [J_lt hk (by omega), J_lt (by omega) hk]
        refine ⟨fun ⟨k', h1, h2, h3⟩ => ?_, fun ⟨h1, h2⟩ => ⟨k, by omega, by omega, rfl⟩⟩
        have := (J_inj hk (by omega)).mp h3
        omega
    by_cases q2 : (∃ k, 1 ≤ k ∧ k ≤ 12 ∧ n = J k) ∧ (∃ k, 1 ≤ k ∧ k ≤ 50 ∧ f1 = J k) ∧ ∃ k, 1 ≤ k ∧ k ≤ 9 ∧ s = J k
    · have er : f_B_isInRange n f1 s d = some (J 1) := by
        obtain ⟨r1, r2, r3⟩ := q2
        have r1 := (rng (by decide) (by decide)).mp r1
        have r2 := (rng (by decide) (by decide)).mp r2
        have r3 := (rng (by decide) (by decide)).mp r3
        unfold f_B_isInRange
        simp only [J_lit]
        rw [if_n r1.1, if_n r1.2, if_n r2.1, if_n r2.2, if_n r3.1, if_n r3.2]
      rw [er, ob1_s, if_n n10]
      unfold f_B_isFull
      simp only [J_lit]
      rw [e16]
      obtain ⟨i, hi, rfl⟩ := q1
      obtain ⟨⟨n', a1, a2, rfl⟩, ⟨f', b1, b2, rfl⟩, ⟨s', c1, c2, rfl⟩⟩ := q2
      by_cases hb : g 3 < 10
      · rw [if_p ((J_lt (by omega) (by omega)).mpr hb), ob1_s, if_p rfl]
        refine rem_then h (fun d2 hS2 hc2 => ?_)
        rw [ok_ob2]
        refine ok_mono (C_takeBrief hS2 hw (by omega) hb) (fun z hz => ?_)
        obtain ⟨z1, z2, z3⟩ := hz
        obtain ⟨w1, w2⟩ := co_then h hc2 z3
        rw [ok_s, Sum.elim_inl, ok_bnd, ok_s, z1]
        exact pr_ok h (by omega) (WF_file (hw.mono (by omega)) (by omega) hb hi ⟨a1, a2⟩ ⟨b1, b2⟩ ⟨c1, c2⟩) w1 z2 w2 (fun hp => ((M_file hp h8 h10).2.2 i n' f' s' hi rfl a1 a2 rfl b1 b2 rfl c1 c2 rfl).2 hb)
      · rw [if_n (fun q => hb ((J_lt (by omega) (by omega)).mp q)), ob1_s, if_n n10, ok_s, Sum.elim_inr]
        show ok (if (0 : Nat) = 1 then _ else if (0 : Nat) = 2 then _ else if (0 : Nat) = 0 then some (J 3, d) else none) _
        rw [if_n (by decide), if_n (by decide), if_p rfl, ok_s]
        exact pr_fail h (by omega) 3 (by decide) (by decide) (fun hp => ((M_file hp h8 h10).2.2 i n' f' s' hi rfl a1 a2 rfl b1 b2 rfl c1 c2 rfl).1 (by omega))
    · have er : f_B_isInRange n f1 s d = some (J 0) := by
        unfold f_B_isInRange
        simp only [J_lit]
        by_cases t1 : n < J 1
        · rw [if_p t1]
        rw [if_n t1]
        by_cases t2 : J 12 < n
        · rw [if_p t2]
        rw [if_n t2]
        by_cases t3 : f1 < J 1
        · rw [if_p t3]
        rw [if_n t3]
        by_cases t4 : J 50 < f1
        · rw [if_p t4]
        rw [if_n t4]
        by_cases t5 : s < J 1
        · rw [if_p t5]
        rw [if_n t5]
        by_cases t6 : J 9 < s
        · rw [if_p t6]
        exact absurd ⟨(rng (by decide) (by decide)).mpr ⟨t1, t2⟩, (rng (by decide) (by decide)).mpr ⟨t3, t4⟩, (rng (by decide) (by decide)).mpr ⟨t5, t6⟩⟩ q2
      rw [er, ob1_s, if_p rfl, ok_s, Sum.elim_inr]
      show ok (if (2 : Nat) = 1 then _ else if (2 : Nat) = 2 then some (J 2, d) else _) _
      rw [if_n (by decide), if_p rfl, ok_s]
      exact pr_fail h (by omega) 2 (by decide) (by decide) (fun hp => (M_file hp h8 h10).2.1 q1 q2)
  · rw [(C_checkL h.sim h8).2 q1, ok_ocW, ok_ocU, ok_s, Sum.elim_inr, ok_s, Sum.elim_inr]
    show ok (if (1 : Nat) = 1 then some (J 1, d) else _) _
    rw [if_p rfl, ok_s]
    exact pr_fail h (by omega) 1 (by decide) (by decide) (fun hp => (M_file hp h8 h10).1 q1)
end CASE2
