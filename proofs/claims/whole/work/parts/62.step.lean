/-! 62: a command is carried out, both sides -/
section STEP
variable {D : Nat} {d d' d1 d2 d3 : Dt} {g : Nat → Nat} {us : List (Nat → Nat)} {v : Nat → Nat} {i k ch j n p x : Nat} {x3 y z w : Int32}
/-- how many numbers a kind has -/
def cntk (k : Nat) : Nat := ([0, 4, 1, 2, 1, 1, 1, 1] : List Nat).getD k 0
/-- the reference's cells for command i -/
def HM (i k ch : Nat) (v : Nat → Nat) (d : Dt) : Prop := d 299 (5 * i) = J k ∧ (∀ j, j < cntk k → d 299 (5 * i + 1 + j) = J (v j)) ∧ (k = 3 → d 299 (5 * i + 1 + 2) = J ch) ∧ (k = 5 → d 299 (5 * i + 1 + 1) = J ch)
def STEP (D : Nat) (g : Nat → Nat) (i k ch : Nat) (v : Nat → Nat) (x3 : Int32) (d : Dt) : Prop :=
  (f_C_carryOut (J k) x3 d = some (J 0, d) ∧ ∀ d3 us, MP d3 us g true → HM i k ch v d3 → ok (f_M_carries (J (5 * i)) d3) (fun z => ∃ c, c < 10 ∧ 1 ≤ c ∧ MO d3 z.2 us g c)) ∨
  ∃ g', WF (D + 9) g' ∧ ok (f_C_carryOut (J k) x3 d) (fun z => z.1 = J 1 ∧ Sim z.2 2 g' ∧ frP d z.2) ∧ ∀ d3 us, MP d3 us g true → HM i k ch v d3 → ok (f_M_carries (J (5 * i)) d3) (fun z => MO d3 z.2 us g' 0)
theorem sm_all : smS 0 = J 1 ∧ smS 1 = J 2 ∧ smS 2 = J 3 ∧ smS 3 = J 4 ∧ smS 4 = J 5 ∧ smS 5 = J 6 ∧ smS 6 = J 7 ∧ smS 7 = J 0 := by decide
theorem C_no (h : f_C_isPossible (J k) x3 d = some (J 0)) : f_C_carryOut (J k) x3 d = some (J 0, d) := by
  unfold f_C_carryOut
  simp only [J_lit]
  rw [h, ob1_s, if_p rfl]
theorem C_inRange : f_B_isInRange y z w d = some (J (if (¬ y < J 1 ∧ ¬ J 12 < y) ∧ (¬ z < J 1 ∧ ¬ J 50 < z) ∧ (¬ w < J 1 ∧ ¬ J 9 < w) then 1 else 0)) := by
  unfold f_B_isInRange
  simp only [J_lit]
  by_cases t1 : y < J 1
  · rw [if_p t1, if_n (fun u => u.1.1 t1)]
  rw [if_n t1]
  by_cases t2 : J 12 < y
  · rw [if_p t2, if_n (fun u => u.1.2 t2)]
  rw [if_n t2]
  by_cases t3 : z < J 1
  · rw [if_p t3, if_n (fun u => u.2.1.1 t3)]
  rw [if_n t3]
  by_cases t4 : J 50 < z
  · rw [if_p t4, if_n (fun u => u.2.1.2 t4)]
  rw [if_n t4]
  by_cases t5 : w < J 1
  · rw [if_p t5, if_n (fun u => u.2.2.1 t5)]
  rw [if_n t5]
  by_cases t6 : J 9 < w
  · rw [if_p t6, if_n (fun u => u.2.2.2 t6)]
  rw [if_n t6, if_p ⟨⟨t1, t2⟩, ⟨t3, t4⟩, ⟨t5, t6⟩⟩]
theorem fr2_P (h : fr2 d d1) : frP d d1 := fun k hk => h k (by omega)
theorem m_strip {F : Option (Int32 × Dt)} {Q : Dt → Prop} (h : ok F (fun z => Q z.2)) : ok (ob2 F fun r d => some (r, d)) (fun z => Q z.2) := by
  rw [ok_ob2]
  exact ok_mono h (fun z hz => by rw [ok_s]; exact hz)
theorem step_0 (hS : Sim d 2 g) (hw : WF D g) (hi : i < 16) : STEP D g i 0 ch v x3 d := by
  have h8 := hw.nl
  have e3 : d 3 0 = J (g 0) := hS.nl
  have hM : ∀ d3 (us : List (Nat → Nat)) (Q : Dt → Prop), HM i 0 ch v d3 → ok (f_M_addLantern d3) (fun z => Q z.2) → ok (f_M_carries (J (5 * i)) d3) (fun z => Q z.2) := fun d3 us Q hH h => by
    unfold f_M_carries
    simp only [J_lit]
    simp (disch := omega) only [J_add, J_inb, J_nat, gd_d]
    rw [hH.1, if_p rfl]
    exact m_strip h
  have hp : f_C_isPossible (J 0) x3 d = some (J (if g 0 < 8 then 1 else 0)) := by
    unfold f_C_isPossible f_L_isFull
    simp only [J_lit]
    rw [J_inb (by decide), gd_d (by decide), J_nat (by decide), sm_all.1, if_p rfl, e3]
    by_cases u : g 0 < 8
    · rw [if_p ((J_lt (by omega) (by omega)).mpr u), ob1_s, if_p rfl, if_p u]
    · rw [if_n (fun q => u ((J_lt (by omega) (by omega)).mp q)), ob1_s, if_n n10, if_n u]
  by_cases u : g 0 < 8
  · rw [if_p u] at hp
    refine Or.inr ⟨addG g, (WF_add hw u).mono (by omega), ?_, fun d3 us hmp hH => hM d3 us (fun d => MO d3 d us (addG g) 0) hH (ok_mono ((M_addLantern hmp h8).2 u) (fun z hz => hz.2))⟩
    unfold f_C_carryOut
    simp only [J_lit]
    rw [hp, ob1_s, if_n n10, J_inb (by decide), gd_d (by decide), J_nat (by decide), sm_all.1, if_p rfl, ok_ob2]
    refine ok_mono (C_L_add hS hw u) (fun z hz => ?_)
    rw [ok_s]
    exact ⟨rfl, hz.2.1, fr2_P hz.2.2⟩
  · rw [if_n u] at hp
    exact Or.inl ⟨C_no hp, fun d3 us hmp hH => hM d3 us (fun d => ∃ c, c < 10 ∧ 1 ≤ c ∧ MO d3 d us g c) hH (ok_mono ((M_addLantern hmp h8).1 (by omega)) (fun z hz => ⟨1, by decide, by decide, hz⟩))⟩
theorem step_1 (hS : Sim d 2 g) (hw : WF D g) (hi : i < 16) (hD : D + 9 < 100000) (h9 : ∀ j, j < 4 → d 289 j = J (v j)) : STEP D g i 1 ch v x3 d := by
  have h8 := hw.nl
  have h10 := hw.nb
  have hx := hw.nx
  have e16 : d 16 0 = J (g 3) := hS.nb
  have hM : ∀ d3 (us : List (Nat → Nat)) (Q : Dt → Prop), HM i 1 ch v d3 → ok (f_M_file (J (v 0)) (J (v 1)) (J (v 2)) (J (v 3)) d3) (fun z => Q z.2) → ok (f_M_carries (J (5 * i)) d3) (fun z => Q z.2) := fun d3 us Q hH h => by
    unfold f_M_carries
    simp only [J_lit]
    simp (disch := omega) only [J_add, J_inb, J_nat, gd_d]
    rw [hH.1, if_n (show ¬ J 1 = J 0 by decide), if_p rfl, show d3 299 (5 * i + 1) = J (v 0) from hH.2.1 0 (by decide), show d3 299 (5 * i + 2) = J (v 1) from hH.2.1 1 (by decide), show d3 299 (5 * i + 3) = J (v 2) from hH.2.1 2 (by decide), show d3 299 (5 * i + 4) = J (v 3) from hH.2.1 3 (by decide)]
    exact m_strip h
  have hno : ∀ c, c < 10 → 1 ≤ c → f_C_isPossible (J 1) x3 d = some (J 0) → (∀ d3 us, MP d3 us g true → ok (f_M_file (J (v 0)) (J (v 1)) (J (v 2)) (J (v 3)) d3) (fun z => MO d3 z.2 us g c)) → STEP D g i 1 ch v x3 d := fun c c1 c2 hp hm => Or.inl ⟨C_no hp, fun d3 us hmp hH => hM d3 us (fun d => ∃ c, c < 10 ∧ 1 ≤ c ∧ MO d3 d us g c) hH (ok_mono (hm d3 us hmp) (fun z hz => ⟨c, c1, c2, hz⟩))⟩
  have hpo : ∀ b, (isIn (g 0) (J (v 0)) → ob1 (f_B_isInRange (J (v 1)) (J (v 2)) (J (v 3)) d) (fun r3 => if r3 = J 0 then some (J 0) else ob1 (f_B_isFull d) fun r4 => if r4 = J 0 then some (J 1) else some (J 0)) = some b) → (¬ isIn (g 0) (J (v 0)) → b = J 0) → f_C_isPossible (J 1) x3 d = some b := fun b hb1 hb0 => by
    unfold f_C_isPossible
    simp only [J_lit]
    rw [J_inb (by decide), gd_d (by decide), J_nat (by decide), sm_all.2.1, if_n (show ¬ J 2 = J 1 by decide), if_p rfl, h9 0 (by decide), h9 1 (by decide), h9 2 (by decide), h9 3 (by decide)]
    by_cases q : isIn (g 0) (J (v 0))
    · rw [(C_has hS h8).1 q, ob1_s, if_n n10]
      exact hb1 q
    · rw [(C_has hS h8).2 q, ob1_s, if_p rfl, hb0 q]
  by_cases q1 : isIn (g 0) (J (v 0))
  · by_cases q2 : (∃ k, 1 ≤ k ∧ k ≤ 12 ∧ J (v 1) = J k) ∧ (∃ k, 1 ≤ k ∧ k ≤ 50 ∧ J (v 2) = J k) ∧ ∃ k, 1 ≤ k ∧ k ≤ 9 ∧ J (v 3) = J k
    · have hr : f_B_isInRange (J (v 1)) (J (v 2)) (J (v 3)) d = some (J 1) := by
        rw [C_inRange, if_p ⟨(rngT (by decide) (by decide)).mp q2.1, (rngT (by decide) (by decide)).mp q2.2.1, (rngT (by decide) (by decide)).mp q2.2.2⟩]
      obtain ⟨l, hl, el⟩ := q1
      obtain ⟨⟨n', a1, a2, a3⟩, ⟨f', b1, b2, b3⟩, ⟨s', c1, c2, c3⟩⟩ := q2
      have hm := fun d3 us (hmp : MP d3 us g true) => (M_file hmp h8 h10).2.2 l n' f' s' hl el a1 a2 a3 b1 b2 b3 c1 c2 c3
      by_cases q3 : g 3 < 10
      · have hp : f_C_isPossible (J 1) x3 d = some (J 1) := hpo (J 1) (fun _ => by
          unfold f_B_isFull
          simp only [J_lit]
          rw [hr, ob1_s, if_n n10, e16, if_p ((J_lt (by omega) (by omega)).mpr q3), ob1_s, if_p rfl]) (fun u => absurd ⟨l, hl, el⟩ u)
        refine Or.inr ⟨fileG g l n' f' s', WF_file (hw.mono (by omega)) (by omega) q3 hl ⟨a1, a2⟩ ⟨b1, b2⟩ ⟨c1, c2⟩, ?_, fun d3 us hmp hH => hM d3 us (fun d => MO d3 d us (fileG g l n' f' s') 0) hH (ok_mono ((hm d3 us hmp).2 q3) (fun z hz => hz.2))⟩
        unfold f_C_carryOut
        simp only [J_lit]
        rw [hp, ob1_s, if_n n10, J_inb (by decide), gd_d (by decide), J_nat (by decide), sm_all.2.1, if_n (show ¬ J 2 = J 1 by decide), if_p rfl, h9 0 (by decide), h9 1 (by decide), h9 2 (by decide), h9 3 (by decide), el, a3, b3, c3, ok_ob2]
        refine ok_mono (C_takeBrief hS hw (by omega) q3) (fun z hz => ?_)
        rw [ok_s]
        exact ⟨rfl, hz.2.1, fr2_P hz.2.2⟩
      · refine hno 3 (by decide) (by decide) (hpo (J 0) (fun _ => ?_) (fun _ => rfl)) (fun d3 us hmp => (hm d3 us hmp).1 (by omega))
        unfold f_B_isFull
        simp only [J_lit]
        rw [hr, ob1_s, if_n n10, e16, if_n (fun u => q3 ((J_lt (by omega) (by omega)).mp u)), ob1_s, if_n n10]
    · refine hno 2 (by decide) (by decide) (hpo (J 0) (fun _ => ?_) (fun _ => rfl)) (fun d3 us hmp => (M_file hmp h8 h10).2.1 q1 q2)
      rw [C_inRange, if_n (fun u => q2 ⟨(rngT (by decide) (by decide)).mpr u.1, (rngT (by decide) (by decide)).mpr u.2.1, (rngT (by decide) (by decide)).mpr u.2.2⟩), ob1_s, if_p rfl]
  · exact hno 1 (by decide) (by decide) (hpo (J 0) (fun u => absurd u q1) (fun _ => rfl)) (fun d3 us hmp => (M_file hmp h8 h10).1 q1)
theorem step_2 (hS : Sim d 2 g) (hw : WF D g) (hi : i < 16) (hD : D + 9 < 100000) (h9 : d 289 0 = J (v 0)) : STEP D g i 2 ch v x3 d := by
  have h10 := hw.nb
  have hM : ∀ d3 (us : List (Nat → Nat)) (Q : Dt → Prop), HM i 2 ch v d3 → ok (f_M_withdraw (J (v 0)) d3) (fun z => Q z.2) → ok (f_M_carries (J (5 * i)) d3) (fun z => Q z.2) := fun d3 us Q hH h => by
    unfold f_M_carries
    simp only [J_lit]
    simp (disch := omega) only [J_add, J_inb, J_nat, gd_d]
    rw [hH.1, if_n (show ¬ J 2 = J 0 by decide), if_n (show ¬ J 2 = J 1 by decide), if_p rfl, show d3 299 (5 * i + 1) = J (v 0) from hH.2.1 0 (by decide)]
    exact m_strip h
  have hpo : ∀ b, (ob1 (f_B_positionOf (J (v 0)) d) fun r5 => if r5 = -J 1 then some (J 0) else some (J 1)) = some b → f_C_isPossible (J 2) x3 d = some b := fun b hb => by
    unfold f_C_isPossible
    simp only [J_lit]
    rw [J_inb (by decide), gd_d (by decide), J_nat (by decide), sm_all.2.2.1, if_n (show ¬ J 3 = J 1 by decide), if_n (show ¬ J 3 = J 2 by decide), if_p rfl, h9]
    exact hb
  by_cases q : ∃ k, k < g 3 ∧ J (v 0) = J (g (101 + 5 * k))
  · obtain ⟨l, hl, el⟩ := q
    have hp : f_C_isPossible (J 2) x3 d = some (J 1) := hpo _ (by rw [(C_positionOf hS hw (by omega)).1 l hl el, ob1_s, if_n (fun q => (J_ne1 (by omega)).mp q)])
    refine Or.inr ⟨backG g l, (WF_back hw hl).mono (by omega), ?_, fun d3 us hmp hH => hM d3 us (fun d => MO d3 d us (backG g l) 0) hH (ok_mono ((M_withdraw hmp hw (by omega)).2 l hl el) (fun z hz => hz.2))⟩
    unfold f_C_carryOut
    simp only [J_lit]
    rw [hp, ob1_s, if_n n10, J_inb (by decide), gd_d (by decide), J_nat (by decide), sm_all.2.2.1, if_n (show ¬ J 3 = J 1 by decide), if_n (show ¬ J 3 = J 2 by decide), if_p rfl, h9, (C_positionOf hS hw (by omega)).1 l hl el, ob1_s, ok_ob2]
    refine ok_mono (C_giveBack hS hw hl) (fun z hz => ?_)
    rw [ok_s]
    exact ⟨rfl, hz.2.1, fr2_P hz.2.2⟩
  · have q' : ∀ k, k < g 3 → J (v 0) ≠ J (g (101 + 5 * k)) := fun k hk ek => q ⟨k, hk, ek⟩
    have hp : f_C_isPossible (J 2) x3 d = some (J 0) := hpo _ (by rw [(C_positionOf hS hw (by omega)).2 q', ob1_s, if_p rfl])
    exact Or.inl ⟨C_no hp, fun d3 us hmp hH => hM d3 us (fun d => ∃ c, c < 10 ∧ 1 ≤ c ∧ MO d3 d us g c) hH (ok_mono ((M_withdraw hmp hw (by omega)).1 q') (fun z hz => ⟨1, by decide, by decide, hz⟩))⟩
theorem step_3 (hS : Sim d 2 g) (hw : WF D g) (hi : i < 16) (hch : ch ≤ 1) (hx3 : x3 = J ch) (h9 : ∀ j, j < 2 → d 289 j = J (v j)) : STEP D g i 3 ch v x3 d := by
  have h8 := hw.nl
  have h12 := hw.ns
  have e22 : d 22 0 = J (g 4) := hS.ns
  have hM : ∀ d3 (us : List (Nat → Nat)) (Q : Dt → Prop), HM i 3 ch v d3 → ok (f_M_makeStatement (J (v 0)) (J (v 1)) (J ch) d3) (fun z => Q z.2) → ok (f_M_carries (J (5 * i)) d3) (fun z => Q z.2) := fun d3 us Q hH h => by
    unfold f_M_carries
    simp only [J_lit]
    simp (disch := omega) only [J_add, J_inb, J_nat, gd_d]
    rw [hH.1, if_n (show ¬ J 3 = J 0 by decide), if_n (show ¬ J 3 = J 1 by decide), if_n (show ¬ J 3 = J 2 by decide), if_p rfl, show d3 299 (5 * i + 1) = J (v 0) from hH.2.1 0 (by decide), show d3 299 (5 * i + 2) = J (v 1) from hH.2.1 1 (by decide), show d3 299 (5 * i + 3) = J ch from hH.2.2.1 rfl]
    unfold f_M_carries_122
    rcases (by omega : ch = 0 ∨ ch = 1) with rfl | rfl
    · rw [if_n (show ¬ J 0 = J 1 by decide)]
      exact m_strip h
    · rw [if_p rfl]
      exact m_strip h
  have hno : ∀ c, c < 10 → 1 ≤ c → f_C_isPossible (J 3) x3 d = some (J 0) → (∀ d3 us, MP d3 us g true → ok (f_M_makeStatement (J (v 0)) (J (v 1)) (J ch) d3) (fun z => MO d3 z.2 us g c)) → STEP D g i 3 ch v x3 d := fun c c1 c2 hp hm => Or.inl ⟨C_no hp, fun d3 us hmp hH => hM d3 us (fun d => ∃ c, c < 10 ∧ 1 ≤ c ∧ MO d3 d us g c) hH (ok_mono (hm d3 us hmp) (fun z hz => ⟨c, c1, c2, hz⟩))⟩
  have hpo : ∀ b, (ob1 (f_L_has (J (v 0)) d) fun r6 => if r6 = J 0 then some (J 0) else ob1 (f_L_has (J (v 1)) d) fun r7 => if r7 = J 0 then some (J 0) else if J (v 0) = J (v 1) then some (J 0) else ob1 (f_T_isFull d) fun r8 => if r8 = J 0 then some (J 1) else some (J 0)) = some b → f_C_isPossible (J 3) x3 d = some b := fun b hb => by
    unfold f_C_isPossible
    simp only [J_lit]
    rw [J_inb (by decide), gd_d (by decide), J_nat (by decide), sm_all.2.2.2.1, if_n (show ¬ J 4 = J 1 by decide), if_n (show ¬ J 4 = J 2 by decide), if_n (show ¬ J 4 = J 3 by decide), if_p rfl, h9 0 (by decide), h9 1 (by decide)]
    exact hb
  by_cases q1 : isIn (g 0) (J (v 0))
  · by_cases q2 : isIn (g 0) (J (v 1))
    · have p1 := q1
      have p2 := q2
      obtain ⟨a, ha, ea⟩ := q1
      obtain ⟨b, hb, eb⟩ := q2
      have hm := fun d3 us (hmp : MP d3 us g true) => (M_makeStatement (t := J ch) hmp h8 h12).2 a b ha hb ea eb
      by_cases q3 : a = b
      · refine hno 2 (by decide) (by decide) (hpo _ ?_) (fun d3 us hmp => (hm d3 us hmp).1 q3)
        rw [(C_has hS h8).1 p1, ob1_s, if_n n10, (C_has hS h8).1 p2, ob1_s, if_n n10, if_p (by rw [ea, eb, q3])]
      · have hne : ¬ J (v 0) = J (v 1) := fun u => q3 ((J_inj (by omega) (by omega)).mp (ea.symm.trans (u.trans eb)))
        by_cases q4 : g 4 < 12
        · have hp : f_C_isPossible (J 3) x3 d = some (J 1) := hpo _ (by
            unfold f_T_isFull
            simp only [J_lit]
            rw [(C_has hS h8).1 p1, ob1_s, if_n n10, (C_has hS h8).1 p2, ob1_s, if_n n10, if_n hne, e22, if_p ((J_lt (by omega) (by omega)).mpr q4), ob1_s, if_p rfl])
          have ech : (if J ch = (0 : Int32) then 0 else 1) = ch := by
            rcases (by omega : ch = 0 ∨ ch = 1) with rfl | rfl <;> decide
          refine Or.inr ⟨stG g a b ch, (WF_st hw q4 ha hb q3 hch).mono (by omega), ?_, fun d3 us hmp hH => hM d3 us (fun d => MO d3 d us (stG g a b ch) 0) hH (ok_mono ((hm d3 us hmp).2.2 q3 q4) (fun z hz => by
            have := hz.2
            rw [ech] at this
            exact this))⟩
          unfold f_C_carryOut
          simp only [J_lit]
          rw [hp, ob1_s, if_n n10, J_inb (by decide), gd_d (by decide), J_nat (by decide), sm_all.2.2.2.1, if_n (show ¬ J 4 = J 1 by decide), if_n (show ¬ J 4 = J 2 by decide), if_n (show ¬ J 4 = J 3 by decide), if_p rfl, h9 0 (by decide), h9 1 (by decide), ea, eb, hx3, ok_ob2]
          refine ok_mono (C_T_add hS hw q4 hch) (fun z hz => ?_)
          rw [ok_s]
          exact ⟨rfl, hz.2.1, fr2_P hz.2.2⟩
        · refine hno 3 (by decide) (by decide) (hpo _ ?_) (fun d3 us hmp => (hm d3 us hmp).2.1 q3 (by omega))
          unfold f_T_isFull
          simp only [J_lit]
          rw [(C_has hS h8).1 p1, ob1_s, if_n n10, (C_has hS h8).1 p2, ob1_s, if_n n10, if_n hne, e22, if_n (fun u => q4 ((J_lt (by omega) (by omega)).mp u)), ob1_s, if_n n10]
    · refine hno 1 (by decide) (by decide) (hpo _ ?_) (fun d3 us hmp => (M_makeStatement hmp h8 h12).1 (fun u => q2 u.2))
      rw [(C_has hS h8).1 q1, ob1_s, if_n n10, (C_has hS h8).2 q2, ob1_s, if_p rfl]
  · refine hno 1 (by decide) (by decide) (hpo _ ?_) (fun d3 us hmp => (M_makeStatement hmp h8 h12).1 (fun u => q1 u.1))
    rw [(C_has hS h8).2 q1, ob1_s, if_p rfl]
theorem step_4 (hS : Sim d 2 g) (hw : WF D g) (hi : i < 16) (h9 : d 289 0 = J (v 0)) : STEP D g i 4 ch v x3 d := by
  have h12 := hw.ns
  have hM : ∀ d3 (us : List (Nat → Nat)) (Q : Dt → Prop), HM i 4 ch v d3 → ok (f_M_dropStatement (J (v 0)) d3) (fun z => Q z.2) → ok (f_M_carries (J (5 * i)) d3) (fun z => Q z.2) := fun d3 us Q hH h => by
    unfold f_M_carries
    simp only [J_lit]
    simp (disch := omega) only [J_add, J_inb, J_nat, gd_d]
    rw [hH.1, if_n (show ¬ J 4 = J 0 by decide), if_n (show ¬ J 4 = J 1 by decide), if_n (show ¬ J 4 = J 2 by decide), if_n (show ¬ J 4 = J 3 by decide), if_p rfl, show d3 299 (5 * i + 1) = J (v 0) from hH.2.1 0 (by decide)]
    exact m_strip h
  have hpo : ∀ b, (ob1 (f_T_has (J (v 0)) d) fun r9 => gd (nar .boolean r9) (some r9)) = some b → f_C_isPossible (J 4) x3 d = some b := fun b hb => by
    unfold f_C_isPossible
    simp only [J_lit]
    rw [J_inb (by decide), gd_d (by decide), J_nat (by decide), sm_all.2.2.2.2.1, if_n (show ¬ J 5 = J 1 by decide), if_n (show ¬ J 5 = J 2 by decide), if_n (show ¬ J 5 = J 3 by decide), if_n (show ¬ J 5 = J 4 by decide), if_p rfl, h9]
    exact hb
  by_cases q : isIn (g 4) (J (v 0))
  · have hp : f_C_isPossible (J 4) x3 d = some (J 1) := hpo _ (by rw [(C_hasT hS h12).1 q, ob1_s, gd_t1 (nar01 (t := 1) (by decide))])
    obtain ⟨a, ha, ea⟩ := q
    refine Or.inr ⟨dropG g a, (WF_drop hw ha).mono (by omega), ?_, fun d3 us hmp hH => hM d3 us (fun d => MO d3 d us (dropG g a) 0) hH (ok_mono ((M_dropStatement hmp h12).2 a ha ea) (fun z hz => hz.2))⟩
    unfold f_C_carryOut
    simp only [J_lit]
    rw [hp, ob1_s, if_n n10, J_inb (by decide), gd_d (by decide), J_nat (by decide), sm_all.2.2.2.2.1, if_n (show ¬ J 5 = J 1 by decide), if_n (show ¬ J 5 = J 2 by decide), if_n (show ¬ J 5 = J 3 by decide), if_n (show ¬ J 5 = J 4 by decide), if_p rfl, h9, ea, ok_ob2]
    refine ok_mono (C_T_remove hS hw ha) (fun z hz => ?_)
    rw [ok_s]
    exact ⟨rfl, hz.2.1, fr2_P hz.2.2⟩
  · have hp : f_C_isPossible (J 4) x3 d = some (J 0) := hpo _ (by rw [(C_hasT hS h12).2 q, ob1_s, gd_t1 (nar01 (t := 0) (by decide))])
    exact Or.inl ⟨C_no hp, fun d3 us hmp hH => hM d3 us (fun d => ∃ c, c < 10 ∧ 1 ≤ c ∧ MO d3 d us g c) hH (ok_mono ((M_dropStatement hmp h12).1 q) (fun z hz => ⟨1, by decide, by decide, hz⟩))⟩
theorem C_admits (hS : Sim d 2 g) (hw : WF D g) (hi : i < g 0) (hch : ch ≤ 1) : f_L_admits (J i) (J ch) d = some (J (if g (14 + 11 * i) = (if ch = 0 then 2 else 1) then 1 else 0)) := by
  have h8 := hw.nl
  have ha := hw.adm hi
  have e5 : d 5 i = J (g (14 + 11 * i)) := hS.adm hi
  unfold f_L_admits f_L_admits_15
  simp only [J_lit]
  rw [J_inb (by omega), gd_d (by omega), J_nat (by omega), e5]
  rcases (by omega : ch = 0 ∨ ch = 1) with rfl | rfl
  · rw [if_p rfl, if_p rfl]
    by_cases q : g (14 + 11 * i) = 2
    · rw [if_p (by rw [q]), if_p q]
    · rw [if_n (J_ne q (by omega) (by decide)), if_n q]
  · rw [if_n n10, if_n (show ¬ 1 = 0 by decide)]
    by_cases q : g (14 + 11 * i) = 1
    · rw [if_p (by rw [q]), if_p q]
    · rw [if_n (J_ne q (by omega) (by decide)), if_n q]
theorem step_5 (hS : Sim d 2 g) (hw : WF D g) (hi : i < 16) (hch : ch ≤ 1) (hx3 : x3 = J ch) (h9 : d 289 0 = J (v 0)) : STEP D g i 5 ch v x3 d := by
  have h8 := hw.nl
  have hA : ∀ i, i < g 0 → g (14 + 11 * i) ≤ 2 := fun i hi => hw.adm hi
  have hM : ∀ d3 (us : List (Nat → Nat)) (Q : Dt → Prop), HM i 5 ch v d3 → ok (f_M_admit (J (v 0)) (J ch) d3) (fun z => Q z.2) → ok (f_M_carries (J (5 * i)) d3) (fun z => Q z.2) := fun d3 us Q hH h => by
    have fin : ok (f_M_carries_144 (J (v 0)) (J ch) d3) (fun z => Q z.2) := by
      unfold f_M_carries_144
      simp only [J_lit]
      rw [ok_ob2]
      refine ok_mono h (fun z hz => ?_)
      by_cases u : z.1 = J 0
      · rw [if_p u, ok_s]; exact hz
      · rw [if_n u, ok_s]; exact hz
    unfold f_M_carries
    simp only [J_lit]
    simp (disch := omega) only [J_add, J_inb, J_nat, gd_d]
    rw [hH.1, if_n (show ¬ J 5 = J 0 by decide), if_n (show ¬ J 5 = J 1 by decide), if_n (show ¬ J 5 = J 2 by decide), if_n (show ¬ J 5 = J 3 by decide), if_n (show ¬ J 5 = J 4 by decide), if_p rfl, show d3 299 (5 * i + 1) = J (v 0) from hH.2.1 0 (by decide), show d3 299 (5 * i + 2) = J ch from hH.2.2.2 rfl]
    rcases (by omega : ch = 0 ∨ ch = 1) with rfl | rfl
    · rw [if_n (show ¬ J 0 = J 1 by decide)]
      exact fin
    · rw [if_p rfl]
      exact fin
  have hno : ∀ c, c < 10 → 1 ≤ c → f_C_isPossible (J 5) x3 d = some (J 0) → (∀ d3 us, MP d3 us g true → ok (f_M_admit (J (v 0)) (J ch) d3) (fun z => MO d3 z.2 us g c)) → STEP D g i 5 ch v x3 d := fun c c1 c2 hp hm => Or.inl ⟨C_no hp, fun d3 us hmp hH => hM d3 us (fun d => ∃ c, c < 10 ∧ 1 ≤ c ∧ MO d3 d us g c) hH (ok_mono (hm d3 us hmp) (fun z hz => ⟨c, c1, c2, hz⟩))⟩
  have hpo : ∀ b, (ob1 (f_L_has (J (v 0)) d) fun r10 => if r10 = J 0 then some (J 0) else ob1 (f_L_admits (J (v 0)) (J ch) d) fun r11 => if r11 = J 0 then some (J 1) else some (J 0)) = some b → f_C_isPossible (J 5) x3 d = some b := fun b hb => by
    unfold f_C_isPossible
    simp only [J_lit]
    rw [J_inb (by decide), gd_d (by decide), J_nat (by decide), sm_all.2.2.2.2.2.1, if_n (show ¬ J 6 = J 1 by decide), if_n (show ¬ J 6 = J 2 by decide), if_n (show ¬ J 6 = J 3 by decide), if_n (show ¬ J 6 = J 4 by decide), if_n (show ¬ J 6 = J 5 by decide), if_p rfl, h9, hx3]
    exact hb
  have eif : (if J ch = (0 : Int32) then 2 else 1) = (if ch = 0 then 2 else 1) := by
    rcases (by omega : ch = 0 ∨ ch = 1) with rfl | rfl <;> decide
  by_cases q : isIn (g 0) (J (v 0))
  · have p1 := q
    obtain ⟨a, ha, ea⟩ := q
    have hm := fun d3 us (hmp : MP d3 us g true) => (M_admit (y := J ch) hmp h8 hA).2 a ha ea
    rw [eif] at hm
    have hadm := C_admits (ch := ch) hS hw ha hch
    by_cases q2 : g (14 + 11 * a) = (if ch = 0 then 2 else 1)
    · refine hno 2 (by decide) (by decide) (hpo _ ?_) (fun d3 us hmp => (hm d3 us hmp).1 q2)
      rw [(C_has hS h8).1 p1, ob1_s, if_n n10, ea, hadm, if_p q2, ob1_s, if_n n10]
    · have hp : f_C_isPossible (J 5) x3 d = some (J 1) := hpo _ (by rw [(C_has hS h8).1 p1, ob1_s, if_n n10, ea, hadm, if_n q2, ob1_s, if_p rfl])
      have hv2 : (if ch = 0 then 2 else 1) ≤ 2 := by
        rcases (by omega : ch = 0 ∨ ch = 1) with rfl | rfl <;> decide
      refine Or.inr ⟨admG g a (if ch = 0 then 2 else 1), (WF_adm hw ha hv2).mono (by omega), ?_, fun d3 us hmp hH => hM d3 us (fun d => MO d3 d us (admG g a (if ch = 0 then 2 else 1)) 0) hH (ok_mono ((hm d3 us hmp).2 q2) (fun z hz => hz.2))⟩
      have fin : ∀ v1, v1 = (if ch = 0 then 2 else 1) → ok (f_C_carryOut_182 (J 5) (J a) (J v1) d) (fun z => z.1 = J 1 ∧ Sim z.2 2 (admG g a (if ch = 0 then 2 else 1)) ∧ frP d z.2) := fun v1 hv1 => by
        unfold f_C_carryOut_182
        rw [ok_ob2, hv1]
        refine ok_mono (C_setAdmission (v := if ch = 0 then 2 else 1) hS hw ha) (fun z hz => ?_)
        rw [ok_s]
        exact ⟨rfl, hz.2.1, fr2_P hz.2.2⟩
      unfold f_C_carryOut
      simp only [J_lit]
      rw [hp, ob1_s, if_n n10, J_inb (by decide), gd_d (by decide), J_nat (by decide), sm_all.2.2.2.2.2.1, if_n (show ¬ J 6 = J 1 by decide), if_n (show ¬ J 6 = J 2 by decide), if_n (show ¬ J 6 = J 3 by decide), if_n (show ¬ J 6 = J 4 by decide), if_n (show ¬ J 6 = J 5 by decide), if_p rfl, h9, hx3, ea]
      rcases (by omega : ch = 0 ∨ ch = 1) with rfl | rfl
      · rw [if_p rfl]
        exact fin 2 rfl
      · rw [if_n n10]
        exact fin 1 rfl
  · refine hno 1 (by decide) (by decide) (hpo _ ?_) (fun d3 us hmp => (M_admit hmp h8 hA).1 q)
    rw [(C_has hS h8).2 q, ob1_s, if_p rfl]
theorem step_6 (hS : Sim d 2 g) (hw : WF D g) (hi : i < 16) (h9 : d 289 0 = J (v 0)) : STEP D g i 6 ch v x3 d := by
  have h8 := hw.nl
  have hM : ∀ d3 (us : List (Nat → Nat)) (Q : Dt → Prop), HM i 6 ch v d3 → ok (f_M_pardon (J (v 0)) d3) (fun z => Q z.2) → ok (f_M_carries (J (5 * i)) d3) (fun z => Q z.2) := fun d3 us Q hH h => by
    unfold f_M_carries
    simp only [J_lit]
    simp (disch := omega) only [J_add, J_inb, J_nat, gd_d]
    rw [hH.1, if_n (show ¬ J 6 = J 0 by decide), if_n (show ¬ J 6 = J 1 by decide), if_n (show ¬ J 6 = J 2 by decide), if_n (show ¬ J 6 = J 3 by decide), if_n (show ¬ J 6 = J 4 by decide), if_n (show ¬ J 6 = J 5 by decide), if_p rfl, show d3 299 (5 * i + 1) = J (v 0) from hH.2.1 0 (by decide)]
    exact m_strip h
  have hno : ∀ c, c < 10 → 1 ≤ c → f_C_isPossible (J 6) x3 d = some (J 0) → (∀ d3 us, MP d3 us g true → ok (f_M_pardon (J (v 0)) d3) (fun z => MO d3 z.2 us g c)) → STEP D g i 6 ch v x3 d := fun c c1 c2 hp hm => Or.inl ⟨C_no hp, fun d3 us hmp hH => hM d3 us (fun d => ∃ c, c < 10 ∧ 1 ≤ c ∧ MO d3 d us g c) hH (ok_mono (hm d3 us hmp) (fun z hz => ⟨c, c1, c2, hz⟩))⟩
  have hpo : ∀ b, (ob1 (f_L_has (J (v 0)) d) fun r12 => if r12 = J 0 then some (J 0) else ob1 (f_L_serves (J (v 0)) d) fun r13 => if r13 = J 0 then some (J 0) else some (J 1)) = some b → f_C_isPossible (J 6) x3 d = some b := fun b hb => by
    unfold f_C_isPossible
    simp only [J_lit]
    rw [J_inb (by decide), gd_d (by decide), J_nat (by decide), sm_all.2.2.2.2.2.2.1, if_n (show ¬ J 7 = J 1 by decide), if_n (show ¬ J 7 = J 2 by decide), if_n (show ¬ J 7 = J 3 by decide), if_n (show ¬ J 7 = J 4 by decide), if_n (show ¬ J 7 = J 5 by decide), if_n (show ¬ J 7 = J 6 by decide), if_p rfl, h9]
    exact hb
  by_cases q : isIn (g 0) (J (v 0))
  · have p1 := q
    obtain ⟨a, ha, ea⟩ := q
    have hsc := hw.sc ha
    have hm := fun d3 us (hmp : MP d3 us g true) => (M_pardon hmp hw).2 a ha ea
    have hsv := L_serves hS h8 hsc ha
    by_cases q2 : g (15 + 11 * a) = 0
    · refine hno 2 (by decide) (by decide) (hpo _ ?_) (fun d3 us hmp => (hm d3 us hmp).1 q2)
      rw [(C_has hS h8).1 p1, ob1_s, if_n n10, ea, hsv, if_p q2, ob1_s, if_p rfl]
    · have hp : f_C_isPossible (J 6) x3 d = some (J 1) := hpo _ (by rw [(C_has hS h8).1 p1, ob1_s, if_n n10, ea, hsv, if_n q2, ob1_s, if_n n10])
      refine Or.inr ⟨endsG g a, (WF_ends hw ha).mono (by omega), ?_, fun d3 us hmp hH => hM d3 us (fun d => MO d3 d us (endsG g a) 0) hH (ok_mono ((hm d3 us hmp).2 q2) (fun z hz => hz.2))⟩
      unfold f_C_carryOut
      simp only [J_lit]
      rw [hp, ob1_s, if_n n10, J_inb (by decide), gd_d (by decide), J_nat (by decide), sm_all.2.2.2.2.2.2.1, if_n (show ¬ J 7 = J 1 by decide), if_n (show ¬ J 7 = J 2 by decide), if_n (show ¬ J 7 = J 3 by decide), if_n (show ¬ J 7 = J 4 by decide), if_n (show ¬ J 7 = J 5 by decide), if_n (show ¬ J 7 = J 6 by decide), if_p rfl, h9, ea, ok_ob2]
      refine ok_mono (C_endSentence (D := D) hS h8 (fun k hk => hw.sc hk) hw.nb hw.ns ha (by omega)) (fun z hz => ?_)
      rw [ok_s]
      exact ⟨rfl, hz.2.1, fr2_P hz.2.2⟩
  · refine hno 1 (by decide) (by decide) (hpo _ ?_) (fun d3 us hmp => (M_pardon hmp hw).1 q)
    rw [(C_has hS h8).2 q, ob1_s, if_p rfl]
theorem step_7 (hS : Sim d 2 g) (hw : WF D g) (hi : i < 16) (hD : D + 9 < 100000) (h9 : d 289 0 = J (v 0)) : STEP D g i 7 ch v x3 d := by
  have hM : ∀ d3 (us : List (Nat → Nat)) (Q : Dt → Prop), HM i 7 ch v d3 → ok (f_M_passDays (J (v 0)) d3) (fun z => Q z.2) → ok (f_M_carries (J (5 * i)) d3) (fun z => Q z.2) := fun d3 us Q hH h => by
    unfold f_M_carries
    simp only [J_lit]
    simp (disch := omega) only [J_add, J_inb, J_nat, gd_d]
    rw [hH.1, if_n (show ¬ J 7 = J 0 by decide), if_n (show ¬ J 7 = J 1 by decide), if_n (show ¬ J 7 = J 2 by decide), if_n (show ¬ J 7 = J 3 by decide), if_n (show ¬ J 7 = J 4 by decide), if_n (show ¬ J 7 = J 5 by decide), if_n (show ¬ J 7 = J 6 by decide), show d3 299 (5 * i + 1) = J (v 0) from hH.2.1 0 (by decide)]
    exact m_strip h
  have hpo : ∀ b, (ob1 (f_C_canPass (J (v 0)) d) fun r14 => gd (nar .boolean r14) (some r14)) = some b → f_C_isPossible (J 7) x3 d = some b := fun b hb => by
    unfold f_C_isPossible
    simp only [J_lit]
    rw [J_inb (by decide), gd_d (by decide), J_nat (by decide), sm_all.2.2.2.2.2.2.2, if_n (show ¬ J 0 = J 1 by decide), if_n (show ¬ J 0 = J 2 by decide), if_n (show ¬ J 0 = J 3 by decide), if_n (show ¬ J 0 = J 4 by decide), if_n (show ¬ J 0 = J 5 by decide), if_n (show ¬ J 0 = J 6 by decide), if_n (show ¬ J 0 = J 7 by decide), h9]
    exact hb
  by_cases q : ∃ n, 1 ≤ n ∧ n ≤ 9 ∧ J (v 0) = J n
  · have hp : f_C_isPossible (J 7) x3 d = some (J 1) := hpo _ (by rw [C_canPass.1 q, ob1_s, gd_t1 (nar01 (t := 1) (by decide))])
    obtain ⟨n, h1, hn9, en⟩ := q
    refine Or.inr ⟨dRN g n, (WF_dRN hw n).mono (by omega), ?_, fun d3 us hmp hH => hM d3 us (fun d => MO d3 d us (dRN g n) 0) hH (ok_mono ((M_passDays hmp hw hD).2 n h1 hn9 en) (fun z hz => hz.2))⟩
    unfold f_C_carryOut
    simp only [J_lit]
    rw [hp, ob1_s, if_n n10, J_inb (by decide), gd_d (by decide), J_nat (by decide), sm_all.2.2.2.2.2.2.2, if_n (show ¬ J 0 = J 1 by decide), if_n (show ¬ J 0 = J 2 by decide), if_n (show ¬ J 0 = J 3 by decide), if_n (show ¬ J 0 = J 4 by decide), if_n (show ¬ J 0 = J 5 by decide), if_n (show ¬ J 0 = J 6 by decide), if_n (show ¬ J 0 = J 7 by decide), h9, en, ok_ob2]
    refine ok_mono (C_letPass hS hw hn9 hD) (fun z hz => ?_)
    rw [ok_s]
    exact ⟨rfl, hz.2.1, hz.2.2⟩
  · have hp : f_C_isPossible (J 7) x3 d = some (J 0) := hpo _ (by rw [C_canPass.2 q, ob1_s, gd_t1 (nar01 (t := 0) (by decide))])
    exact Or.inl ⟨C_no hp, fun d3 us hmp hH => hM d3 us (fun d => ∃ c, c < 10 ∧ 1 ≤ c ∧ MO d3 d us g c) hH (ok_mono ((M_passDays hmp hw hD).1 q) (fun z hz => ⟨1, by decide, by decide, hz⟩))⟩
theorem step_all (hS : Sim d 2 g) (hw : WF D g) (hi : i < 16) (hD : D + 9 < 100000) (hk : k < 8) (hch : k = 3 ∨ k = 5 → ch ≤ 1 ∧ x3 = J ch) (h9 : ∀ j, j < cntk k → d 289 j = J (v j)) : STEP D g i k ch v x3 d := by
  rcases (by omega : k = 0 ∨ k = 1 ∨ k = 2 ∨ k = 3 ∨ k = 4 ∨ k = 5 ∨ k = 6 ∨ k = 7) with rfl | rfl | rfl | rfl | rfl | rfl | rfl | rfl
  · exact step_0 hS hw hi
  · exact step_1 hS hw hi hD h9
  · exact step_2 hS hw hi hD (h9 0 (by decide))
  · exact step_3 hS hw hi (hch (Or.inl rfl)).1 (hch (Or.inl rfl)).2 h9
  · exact step_4 hS hw hi (h9 0 (by decide))
  · exact step_5 hS hw hi (hch (Or.inr rfl)).1 (hch (Or.inr rfl)).2 (h9 0 (by decide))
  · exact step_6 hS hw hi (h9 0 (by decide))
  · exact step_7 hS hw hi hD (h9 0 (by decide))
end STEP
