/-! 63: the law's case runCommands -/
section RUN
variable {D D' : Nat} {d d' d0 d1 d2 d3 : Dt} {g g' G : Nat → Nat} {us us' : List (Nat → Nat)} {sv : Option (Nat → Nat)} {e f e' f' : Int32} {ln : Nat} {cs : Nat → Nat} {om : Nat} {os : Nat → Nat} {L i : Nat} {xs : Nat → Int32} {N : Nat} {t : Nat → Nat} {k m n p q j c c' : Nat} {F : Nat → Nat → Nat}
theorem sS_ok {r : PR} (h : (sS N t r).1 = true) : r.1 = true := by
  cases q : r.1 with
  | true => rfl
  | false => rw [sS_f q, q] at h; cases h
theorem sN_ok {r : PR} (h : (sN N t n r).1 = true) : r.1 = true := by
  cases q : r.1 with
  | true => rfl
  | false => rw [sN_f q, q] at h; cases h
theorem sO_ok {r : PR} (h : (sO N t c c' r).1 = true) : r.1 = true := by
  cases q : r.1 with
  | true => rfl
  | false => rw [sO_f q, q] at h; cases h
theorem sO_c {r : PR} (hr : r.1 = true) (h : (sO N t c c' r).1 = true) : (sO N t c c' r).2.2.1 = r.2.2.1 ∧ (sO N t c c' r).2.2.2.2 ≤ 1 := by
  unfold sO at h ⊢
  rw [if_p hr] at h ⊢
  by_cases q1 : tx N t r.2.1 c = true
  · rw [if_p q1]; exact ⟨rfl, Nat.le_refl _⟩
  · rw [if_n q1] at h ⊢
    by_cases q2 : tx N t r.2.1 c' = true
    · rw [if_p q2]; exact ⟨rfl, Nat.zero_le _⟩
    · rw [if_n q2] at h
      cases h
theorem foR_c (hk : k < 8) (h : (foR N t k q).1 = true) : (foR N t k q).2.2.1 = cntk k ∧ (k = 3 ∨ k = 5 → (foR N t k q).2.2.2.2 ≤ 1) := by
  have one : ∀ n, (sN N t n (sS N t (st0 q))).1 = true → (sN N t n (sS N t (st0 q))).2.2.1 = 1 := fun n h => (sNS_c (show (st0 q).1 = true from rfl) h).1
  rcases (by omega : k = 0 ∨ k = 1 ∨ k = 2 ∨ k = 3 ∨ k = 4 ∨ k = 5 ∨ k = 6 ∨ k = 7) with rfl | rfl | rfl | rfl | rfl | rfl | rfl | rfl
  · exact ⟨rfl, fun u => by omega⟩
  · have eR : foR N t 1 q = sN N t 1 (sS N t (sN N t 2 (sS N t (sN N t 2 (sS N t (sN N t 1 (sS N t (st0 q)))))))) := rfl
    rw [eR] at h ⊢
    have h3 := sS_ok (sN_ok h)
    have h2 := sS_ok (sN_ok h3)
    have h1 := sS_ok (sN_ok h2)
    have c4 := (sNS_c h3 h).1
    have c3 := (sNS_c h2 h3).1
    have c2 := (sNS_c h1 h2).1
    have c1 := one 1 h1
    refine ⟨?_, fun u => by omega⟩
    rw [c4, c3, c2, c1]
    rfl
  · have eR : foR N t 2 q = sN N t 3 (sS N t (st0 q)) := rfl
    rw [eR] at h ⊢
    exact ⟨one _ h, fun u => by omega⟩
  · have eR : foR N t 3 q = sO N t 43 45 (sN N t 1 (sN N t 1 (sS N t (st0 q)))) := rfl
    rw [eR] at h ⊢
    have h2 := sO_ok h
    have h1 := sN_ok h2
    have c3 := sO_c h2 h
    have c2 := (sN_c h1 h2).1
    have c1 := one 1 h1
    refine ⟨?_, fun _ => c3.2⟩
    rw [c3.1, c2, c1]
    rfl
  · have eR : foR N t 4 q = sN N t 2 (sS N t (st0 q)) := rfl
    rw [eR] at h ⊢
    exact ⟨one _ h, fun u => by omega⟩
  · have eR : foR N t 5 q = sO N t 103 105 (sS N t (sN N t 1 (sS N t (st0 q)))) := rfl
    rw [eR] at h ⊢
    have h2 := sO_ok h
    have h1 := sS_ok h2
    have c3 := sO_c h2 h
    have c1 := one 1 h1
    refine ⟨?_, fun _ => c3.2⟩
    rw [c3.1, sS_cnt, c1]
    rfl
  · have eR : foR N t 6 q = sN N t 1 (sS N t (st0 q)) := rfl
    rw [eR] at h ⊢
    exact ⟨one _ h, fun u => by omega⟩
  · have eR : foR N t 7 q = wtR N t q := if_p rfl
    rw [eR] at h ⊢
    unfold wtR at h ⊢
    by_cases u : tx N t q 32 = true
    · rw [if_p u] at h ⊢
      exact ⟨one _ h, fun u => by omega⟩
    · rw [if_n u]
      exact ⟨rfl, fun u => by omega⟩
theorem cmd_c (h : (cmdR N t p).1 = true) : kd N t p < 8 ∧ (cmdR N t p).2.2.1 = cntk (kd N t p) ∧ (kd N t p = 3 ∨ kd N t p = 5 → (cmdR N t p).2.2.2.2 ≤ 1) := by
  unfold cmdR at h ⊢
  by_cases u : kwO N t p = true
  · rw [if_p u] at h ⊢
    have v := u
    unfold kwO at v
    rw [Bool.and_eq_true, decide_eq_true_iff] at v
    exact ⟨v.1, foR_c v.1 h⟩
  · rw [if_n u] at h
    cases h
theorem HM_of (h : PM N t d i) (hok : (cmdR N t (cp N t i)).1 = true) : HM i (kd N t (cp N t i)) (cmdR N t (cp N t i)).2.2.2.2 (cmdR N t (cp N t i)).2.2.2.1 d := by
  obtain ⟨c1, c2, c3⟩ := cmd_c hok
  obtain ⟨h1, h2, h3⟩ := h
  rw [c2] at h1 h2
  refine ⟨h3, h1, fun u => ?_, fun u => ?_⟩
  · have := c3 (Or.inl u)
    rcases h2 with h2 | h2
    · omega
    · rw [u] at h2
      exact h2
  · have := c3 (Or.inr u)
    rcases h2 with h2 | h2
    · omega
    · rw [u] at h2
      exact h2
def SM (N : Nat) (t : Nat → Nat) (j : Nat) (G G' : Nat → Nat) : Prop := ∀ d3 us, MP d3 us G true → PM N t d3 j → ok (f_M_carries (J (5 * j)) d3) (fun z => MO d3 z.2 us G' 0)
def SF (N : Nat) (t : Nat → Nat) (j : Nat) (G : Nat → Nat) : Prop := ∀ d3 us, MP d3 us G true → PM N t d3 j → ok (f_M_carries (J (5 * j)) d3) (fun z => ∃ c, c < 10 ∧ 1 ≤ c ∧ MO d3 z.2 us G c)
def frQ (d d' : Dt) : Prop := ∀ k, k < 2 ∨ (27 ≤ k ∧ k < 277) ∨ k = 288 ∨ 290 ≤ k → d' k = d k
theorem frQ.trans (h : frQ d d1) (h2 : frQ d1 d2) : frQ d d2 := fun k hk => (h2 k hk).trans (h k hk)
/-- the class carries out the commands -/
theorem C_all (hS : Sim d 2 g) (hw : WF D g) (hD : D + 9 * (m + 1) < 100000) (hT : TC d N t) (hTT : TT N t) (hL : lastC N t m) (hf : fine N t m) (hm : m ≤ 14) (hk3 : ∃ k, k < 8 ∧ d 287 3 = J k) : ok (f_C_carryOutAll (J (m + 1)) d) (fun z => TC z.2 N t ∧ (∃ k, k < 8 ∧ z.2 287 3 = J k) ∧ frQ d z.2 ∧ ∃ F : Nat → Nat → Nat, F 0 = g ∧ ((z.1 = -J 1 ∧ (∀ j, j < m + 1 → SM N t j (F j) (F (j + 1))) ∧ Sim z.2 2 (F (m + 1)) ∧ WF (D + 9 * (m + 1)) (F (m + 1))) ∨ ∃ i, i < m + 1 ∧ z.1 = J i ∧ (∀ j, j < i → SM N t j (F j) (F (j + 1))) ∧ SF N t i (F i))) := by
  have h60 := hTT.1
  have hok : ∀ i, i < m + 1 → (cmdR N t (cp N t i)).1 = true ∧ atE N t (cmdR N t (cp N t i)).2.1 = true := fun i hi => by
    rcases (by omega : i < m ∨ i = m) with u | rfl
    · have h1 := hL.1 i u
      refine ⟨h1.1, ?_⟩
      unfold atE
      rw [h1.2, Bool.or_true]
    · refine ⟨hf.1, ?_⟩
      unfold atE
      rw [hf.2, decide_eq_true (Nat.le_refl N), Bool.true_or]
  unfold f_C_carryOutAll f_I_rewind f_C_carryOutAll_9
  simp only [J_lit]
  rw [ok_ob1, ok_bnd, ok_s]
  have f0 : frQ d (wr d 287 2 (J 0)) := fun k hk => wr_k (by omega)
  refine iter_up 0 (m + 1) (fun i z => ∃ (F : Nat → Nat → Nat) (d5 : Dt), z = (J i, d5) ∧ F 0 = g ∧ (∀ j, j < i → SM N t j (F j) (F (j + 1))) ∧ Sim d5 2 (F i) ∧ WF (D + 9 * i) (F i) ∧ TC d5 N t ∧ (i < m + 1 → d5 287 2 = J (cp N t i)) ∧ (∃ k, k < 8 ∧ d5 287 3 = J k) ∧ frQ d d5) ⟨fun _ => g, _, rfl, rfl, fun j hj => absurd hj (Nat.not_lt_zero j), hS.same hw.nl (fun k h1 h2 => wr_k (by omega)), hw, ⟨by rw [wr_j (by decide)]; exact hT.1, fun j hj => by rw [wr_k (by decide)]; exact hT.2 j hj⟩, fun _ => wr_s, by
    obtain ⟨k, k1, k2⟩ := hk3
    exact ⟨k, k1, by rw [wr_j (by decide)]; exact k2⟩, f0⟩ (Nat.zero_le _) (by omega) ?_ ?_
  · intro i z hi hz
    obtain ⟨F, d5, rfl, z1, z2, z3, z4, z5, z6, z7, z8⟩ := hz
    obtain ⟨o1, o2⟩ := hok i hi
    have hmi : ∀ j, j < i → more N t j := fun j hj => hL.1 j (by omega)
    have hin := cp_in i hmi
    obtain ⟨c1, c2, c3⟩ := cmd_c o1
    unfold st_C_carryOutAll_9
    simp only [J_lit]
    rw [if_n (fun u => by have := (J_le (by omega) (by omega)).mp u; omega), ok_ob2]
    refine ok_mono (I_cmd z5 hTT (z6 hi) hin) (fun y hy => ?_)
    obtain ⟨y1, y2, y3, y4, y5⟩ := hy
    have hb : ((cmdR N t (cp N t i)).1 && atE N t (cmdR N t (cp N t i)).2.1) = true := by rw [o1, o2]; rfl
    obtain ⟨n1, n2, n3, n4⟩ := y3 hb
    have S6 : Sim y.2 2 (F i) := z3.same z4.nl (fun k h1 h2 => y4.1 k (by omega) (by omega))
    have T6 := y4.tc z5
    have fq6 : frQ d y.2 := fun k hk => (y4.1 k (by omega) (by omega)).trans (z8 k hk)
    have hst : STEP (D + 9 * i) (F i) i (kd N t (cp N t i)) (cmdR N t (cp N t i)).2.2.2.2 (cmdR N t (cp N t i)).2.2.2.1 (y.2 287 6) y.2 := step_all S6 z4 (by omega) (by omega) c1 (fun u => ⟨c3 u, by
      have := c3 u
      rcases n2 with n2 | n2
      · omega
      · exact n2⟩) (fun j hj => n1 j (by rw [c2]; exact hj))
    rw [y1, if_p hb, if_n n10, n3, J_inb (by omega), gd_d (by omega), ok_ob2]
    rcases hst with ⟨s1, s2⟩ | ⟨G', s1, s2, s3⟩
    · rw [s1, ok_s]
      dsimp only
      rw [if_p rfl, ok_ir, ok_s]
      exact Or.inr ⟨_, rfl, T6, ⟨_, c1, n3⟩, fq6, F, z1, Or.inr ⟨i, hi, rfl, z2, fun d3 us hp hP => s2 d3 us hp (HM_of hP o1)⟩⟩
    · refine ok_mono s2 (fun w hw2 => ?_)
      obtain ⟨w1, w2, w3⟩ := hw2
      have e2 : w.2 287 2 = J (cmdR N t (cp N t i)).2.1 := by rw [w3 287 (by omega)]; exact y2
      unfold f_I_skipSemicolon
      simp only [J_lit]
      rw [w1, if_n n10, ok_ob1, e2, J_add, ok_bnd, ok_s, ok_s, J_add]
      have sel : ∀ j, j ≤ i → (fun j => if j ≤ i then F j else G') j = F j := fun j hj => if_p hj
      have sel2 : (fun j => if j ≤ i then F j else G') (i + 1) = G' := if_n (by omega)
      refine Or.inl ⟨_, rfl, fun j => if j ≤ i then F j else G', _, rfl, ?_, fun j hj => ?_, ?_, ?_, ⟨?_, fun j hj => ?_⟩, fun _ => wr_s, ⟨_, c1, ?_⟩, fun k hk => ?_⟩
      · show (if 0 ≤ i then F 0 else G') = g
        rw [if_p (Nat.zero_le _)]
        exact z1
      · rcases (by omega : j < i ∨ j = i) with u | rfl
        · show SM N t j (if j ≤ i then F j else G') (if j + 1 ≤ i then F (j + 1) else G')
          rw [if_p (by omega), if_p (by omega)]
          exact z2 j u
        · show SM N t j (if j ≤ j then F j else G') (if j + 1 ≤ j then F (j + 1) else G')
          rw [if_p (Nat.le_refl _), if_n (by omega)]
          exact fun d3 us hp hP => s3 d3 us hp (HM_of hP o1)
      · show Sim _ 2 (if i + 1 ≤ i then F (i + 1) else G')
        rw [if_n (by omega)]
        exact w2.same s1.nl (fun k h1 h2 => wr_k (by omega))
      · show WF (D + 9 * (i + 1)) (if i + 1 ≤ i then F (i + 1) else G')
        rw [if_n (by omega)]
        exact s1.mono (by omega)
      · rw [wr_j (by decide), w3 287 (by omega)]; exact T6.1
      · rw [wr_k (by decide), w3 288 (by omega)]; exact T6.2 j hj
      · rw [wr_j (by decide), w3 287 (by omega)]; exact n3
      · rw [wr_k (by omega), w3 k (by omega)]
        exact fq6 k hk
  · intro z hz
    obtain ⟨F, d5, rfl, z1, z2, z3, z4, z5, z6, z7, z8⟩ := hz
    unfold st_C_carryOutAll_9
    simp only [J_lit]
    rw [if_p ((J_le (by omega) (by omega)).mpr (Nat.le_refl _)), ok_ir, ok_s]
    exact ⟨_, rfl, z5, z7, z8, F, z1, Or.inl ⟨rfl, z2, z3, z4⟩⟩
/-- the reference lays the state before the text on the stack -/
theorem M_keeps296 (hr : rowN d 296 0 g) (hk : KP d us) (hl : us.length ≤ 8) (hw : d 292 6 = J 0) : ok (f_M_keeps_292_296 d) (KQ d us g) := by
  unfold f_M_keeps_292_296
  rw [ok_bnd, wr_j (by decide), wr_j (by decide), hw, J_0, if_p (rfl : J 0 = J 0), hk.1]
  have hk1 : KP (wr d 292 7 (J 0)) us := ⟨by rw [wr_j (by decide)]; exact hk.1, fun j hj => rowN_cong (hk.2 j hj) (wr_k (by decide))⟩
  have hr1 : rowN (wr d 292 7 (J 0)) 296 0 g := rowN_cong hr (wr_k (by decide))
  generalize hd1 : wr d 292 7 (J 0) = d1 at hk1 hr1 ⊢
  have f1 : ∀ k, k ≠ 292 → d1 k = d k := fun k hk => by rw [← hd1]; exact wr_k hk
  have f2 : ∀ j, j ≠ 7 → d1 292 j = d 292 j := fun j hj => by rw [← hd1]; exact wr_j hj
  have f3 : d1 292 7 = J 0 := by rw [← hd1]; exact wr_s
  unfold KQ pushU
  by_cases h8 : us.length = 8
  · rw [if_pos (by rw [h8]; rfl)]
    unfold f_M_keeps_292_296_24
    refine shift_gen (step := fun s => st_M_keeps_292_296_24 s.1 s.2) (k63 := f_M_keeps_292_296_63) (fun j d hj => ?_) (fun d => ?_) d1 ?_
    · show st_M_keeps_292_296_24 (J j) d = _
      unfold st_M_keeps_292_296_24 bnd
      simp (disch := omega) only [ite_true, ite_false, J_lit, J_add, J_mul, J_nat, J_inb, J_le, J_lt, J_inj, J_sub, J_div, gd_d, if_p, if_n, ob1_s, ob2_s, ir_s, if_n]
    · show st_M_keeps_292_296_24 (J 1309) d = _
      unfold st_M_keeps_292_296_24 bnd
      simp (disch := omega) only [ite_true, ite_false, J_lit, J_add, J_mul, J_nat, J_inb, J_le, J_lt, J_inj, J_sub, J_div, gd_d, if_p, if_n, ob1_s, ob2_s, ir_s, if_p]
    · have hk2 := shift_KP hk1 h8
      have hr2 : rowN (wr (wrf d1 294 (fun q => if q < 1309 then d1 294 (q + 187) else d1 294 q)) 292 5 ((d1 292 5) - 1)) 296 0 g := rowN_cong hr1 (by rw [wr_k (by decide), wrf_k (by decide)])
      generalize hd2 : wr (wrf d1 294 (fun q => if q < 1309 then d1 294 (q + 187) else d1 294 q)) 292 5 ((d1 292 5) - 1) = d2 at hk2 hr2 ⊢
      have g1 : ∀ k, k ≠ 292 → k ≠ 294 → d2 k = d k := fun k h1 h2 => by rw [← hd2, wr_k h1, wrf_k h2, f1 k h1]
      have g2 : ∀ j, j ≠ 5 → d2 292 j = d1 292 j := fun j hj => by rw [← hd2, wr_j hj, wrf_k (by decide)]
      have ht : us.tail.length = 7 := by rw [List.length_tail, h8]
      have e5 : d2 292 5 = J 7 := by rw [hk2.1, ht]
      unfold f_M_keeps_292_296_63
      refine ok_mono (keep63_gen (cp := fun d' => f_M_copies_296_294 0 (187 * (d2 292 5)) d') (sc := 296) ?_ hr2 hk2 (by omega)) (fun t ht9 => ?_)
      · rw [e5, ht, show (187 * J 7 : Int32) = J 1309 by decide]
        exact M_copies_296_294 (by decide) d2
      · refine ⟨by rw [if_pos h8]; exact ht9.1, fun k h1 h2 => (ht9.2.1 k h1 h2).trans (g1 k h1 h2), fun j h5 h7 => ?_, ?_⟩
        · rw [ht9.2.2 j h5, g2 j h5, f2 j h7]
        · rw [ht9.2.2 7 (by decide), g2 7 (by decide), f3]
  · rw [if_neg (show ¬ J us.length = 8 from fun h => h8 ((J_inj (by omega) (by omega)).mp (show J us.length = J 8 from h)))]
    have e5 : d1 292 5 = J us.length := hk1.1
    unfold f_M_keeps_292_296_63
    refine ok_mono (keep63_gen (cp := fun d' => f_M_copies_296_294 0 (187 * (d1 292 5)) d') (sc := 296) ?_ hr1 hk1 (by omega)) (fun t ht9 => ?_)
    · rw [e5, show (187 * J us.length : Int32) = J (187 * us.length) from J_mul]
      exact M_copies_296_294 (by omega) d1
    · refine ⟨by rw [if_neg h8]; exact ht9.1, fun k h1 h2 => (ht9.2.1 k h1 h2).trans (f1 k h1), fun j h5 h7 => ?_, ?_⟩
      · rw [ht9.2.2 j h5, f2 j h7]
      · rw [ht9.2.2 7 (by decide), f3]
/-- cells that the reference leaves -/
def frR (d d' : Dt) : Prop := (∀ k, k ≠ 292 → k ≠ 293 → k ≠ 294 → k ≠ 296 → k ≠ 299 → d' k = d k) ∧ d' 292 4 = d 292 4 ∧ d' 292 13 = d 292 13
theorem frR.trans (h : frR d d1) (h2 : frR d1 d2) : frR d d2 := ⟨fun k a b c e f => (h2.1 k a b c e f).trans (h.1 k a b c e f), h2.2.1.trans h.2.1, h2.2.2.trans h.2.2⟩
theorem MO.frR {us : List (Nat → Nat)} {G : Nat → Nat} {c : Nat} (h : MO d d1 us G c) : frR d d1 := ⟨fun k a b c _ _ => h.2.2.2.1 k a b c, h.2.2.2.2 4 (by decide) (by decide), h.2.2.2.2 13 (by decide) (by decide)⟩
/-- the reference carries out the commands: all of them -/
theorem M_62 (hp : MP d0 us g true) (h7 : d0 292 7 = J 0) (h16 : d0 292 16 = J (m + 1)) (hm : m ≤ 14) (hP : ∀ j, j < m + 1 → PM N t d0 j) (h0 : F 0 = g) (hF : ∀ j, j < m + 1 → SM N t j (F j) (F (j + 1))) {Q : Int32 × Dt → Prop} (hQ : ∀ x3 d', MO d0 d' us (F (m + 1)) 0 → ok (f_M_runCommands_98 (J (m + 1)) x3 d') Q) : ok (f_M_runCommands_62 (J 0) (J 0) d0) Q := by
  have hm0 : MO d0 d0 us (F 0) 0 := ⟨hp.2.1, by rw [h0]; exact hp.1, h7, fun _ _ _ _ => rfl, fun _ _ _ => rfl⟩
  unfold f_M_runCommands_62
  refine iter_up 0 (m + 1) (fun i z => ∃ x3 d', z = (J i, x3, d') ∧ MO d0 d' us (F i) 0) ⟨_, _, rfl, hm0⟩ (Nat.zero_le _) (by omega) ?_ ?_
  · intro i z hi hz
    obtain ⟨x3, d', rfl, z1⟩ := hz
    have e16 : d' 292 16 = J (m + 1) := by rw [z1.2.2.2.2 16 (by decide) (by decide)]; exact h16
    have hp' : MP d' us (F i) true := ⟨z1.2.1, z1.1, hp.2.2.1, by rw [z1.2.2.2.2 6 (by decide) (by decide)]; exact hp.2.2.2⟩
    have hP' : PM N t d' i := by
      have h := hP i hi
      have e : d' 299 = d0 299 := z1.2.2.2.1 299 (by decide) (by decide) (by decide)
      unfold PM
      rw [e]
      exact h
    unfold st_M_runCommands_62
    simp only [J_lit]
    rw [e16, if_n (fun q => by have := (J_le (by omega) (by omega)).mp q; omega), z1.2.2.1, if_p rfl, J_mul, ok_ob2]
    refine ok_mono (hF i hi d' us hp' hP') (fun y hy => ?_)
    rw [hy.2.2.1, if_p rfl, ok_s, J_add]
    refine Or.inl ⟨_, rfl, y.1, y.2, rfl, hy.1, hy.2.1, hy.2.2.1, fun k a b c => (hy.2.2.2.1 k a b c).trans (z1.2.2.2.1 k a b c), fun j a b => (hy.2.2.2.2 j a b).trans (z1.2.2.2.2 j a b)⟩
  · intro z hz
    obtain ⟨x3, d', rfl, z1⟩ := hz
    have e16 : d' 292 16 = J (m + 1) := by rw [z1.2.2.2.2 16 (by decide) (by decide)]; exact h16
    unfold st_M_runCommands_62
    simp only [J_lit]
    rw [e16, if_p ((J_le (by omega) (by omega)).mpr (Nat.le_refl _)), ok_ir]
    exact ok_mono (hQ x3 d' z1) (fun y hy => ⟨y, rfl, hy⟩)
/-- up to one that fails -/
theorem M_62f (hp : MP d0 us g true) (h7 : d0 292 7 = J 0) (h16 : d0 292 16 = J (m + 1)) (hm : m ≤ 14) (hP : ∀ j, j < m + 1 → PM N t d0 j) (h0 : F 0 = g) (hi : i < m + 1) (hF : ∀ j, j < i → SM N t j (F j) (F (j + 1))) (hf : SF N t i (F i)) {Q : Int32 × Dt → Prop} (hQ : ∀ x3 d' c, c < 10 → 1 ≤ c → MO d0 d' us (F i) c → ok (f_M_runCommands_98 (J i) x3 d') Q) : ok (f_M_runCommands_62 (J 0) (J 0) d0) Q := by
  have hm0 : MO d0 d0 us (F 0) 0 := ⟨hp.2.1, by rw [h0]; exact hp.1, h7, fun _ _ _ _ => rfl, fun _ _ _ => rfl⟩
  unfold f_M_runCommands_62
  refine iter_up 0 (i + 1) (fun j z => ∃ x3 d', (j ≤ i ∧ z = (J j, x3, d') ∧ MO d0 d' us (F j) 0) ∨ (j = i + 1 ∧ z = (J i, x3, d') ∧ ∃ c, c < 10 ∧ 1 ≤ c ∧ MO d0 d' us (F i) c)) ⟨_, _, Or.inl ⟨Nat.zero_le _, rfl, hm0⟩⟩ (Nat.zero_le _) (by omega) ?_ ?_
  · intro j z hj hz
    obtain ⟨x3, d', hz⟩ := hz
    rcases hz with ⟨_, rfl, z1⟩ | ⟨u, _⟩
    · have e16 : d' 292 16 = J (m + 1) := by rw [z1.2.2.2.2 16 (by decide) (by decide)]; exact h16
      have hp' : MP d' us (F j) true := ⟨z1.2.1, z1.1, hp.2.2.1, by rw [z1.2.2.2.2 6 (by decide) (by decide)]; exact hp.2.2.2⟩
      have hP' : PM N t d' j := by
        have h := hP j (by omega)
        have e : d' 299 = d0 299 := z1.2.2.2.1 299 (by decide) (by decide) (by decide)
        unfold PM
        rw [e]
        exact h
      unfold st_M_runCommands_62
      simp only [J_lit]
      rw [e16, if_n (fun q => by have := (J_le (by omega) (by omega)).mp q; omega), z1.2.2.1, if_p rfl, J_mul, ok_ob2]
      rcases (by omega : j < i ∨ j = i) with u | rfl
      · refine ok_mono (hF j u d' us hp' hP') (fun y hy => ?_)
        rw [hy.2.2.1, if_p rfl, ok_s, J_add]
        refine Or.inl ⟨_, rfl, y.1, y.2, Or.inl ⟨by omega, rfl, hy.1, hy.2.1, hy.2.2.1, fun k a b c => (hy.2.2.2.1 k a b c).trans (z1.2.2.2.1 k a b c), fun j a b => (hy.2.2.2.2 j a b).trans (z1.2.2.2.2 j a b)⟩⟩
      · refine ok_mono (hf d' us hp' hP') (fun y hy => ?_)
        obtain ⟨c, c1, c2, hy⟩ := hy
        rw [hy.2.2.1, if_n (J_ne (by omega) (by omega) (by decide)), ok_s]
        refine Or.inl ⟨_, rfl, y.1, y.2, Or.inr ⟨rfl, rfl, c, c1, c2, hy.1, hy.2.1, hy.2.2.1, fun k a b c => (hy.2.2.2.1 k a b c).trans (z1.2.2.2.1 k a b c), fun j a b => (hy.2.2.2.2 j a b).trans (z1.2.2.2.2 j a b)⟩⟩
    · omega
  · intro z hz
    obtain ⟨x3, d', hz⟩ := hz
    rcases hz with ⟨u, _⟩ | ⟨_, rfl, c, c1, c2, z1⟩
    · omega
    · have e16 : d' 292 16 = J (m + 1) := by rw [z1.2.2.2.2 16 (by decide) (by decide)]; exact h16
      unfold st_M_runCommands_62
      simp only [J_lit]
      rw [e16, if_n (fun q => by have := (J_le (by omega) (by omega)).mp q; omega), z1.2.2.1, if_n (J_ne (by omega) (by omega) (by decide)), ok_ir]
      exact ok_mono (hQ x3 d' c c1 c2 z1) (fun y hy => ⟨y, rfl, hy⟩)
theorem M_bad (hr : rowN d 293 0 g) (hk : KP d us) (h6 : d 292 6 = J 0) (hT : TM d N t) (hTT : TT N t) (hL : lastC N t m) (hb : ¬ fine N t m) : ok (f_M_runCommands d) (fun z => z.2 292 7 = J 1 ∧ rowN z.2 293 0 g ∧ KP z.2 us ∧ z.2 292 6 = J 0 ∧ z.2 292 9 = J 0 ∧ z.2 292 10 = J (cmdR N t (cp N t m)).2.1 ∧ z.2 292 11 = d 292 11 ∧ frR d z.2) := by
  unfold f_M_runCommands
  simp only [J_lit]
  rw [ok_ob2]
  refine ok_mono (M_text hT hTT) (fun z hz => ?_)
  obtain ⟨m', z1, z2, z3, z4, z5⟩ := hz
  have hmm := lastC_u z1 hL
  subst hmm
  obtain ⟨b1, b2⟩ := z3 hb
  rw [b1, if_p rfl, b2, ok_bnd]
  unfold f_M_runCommands_17 f_M_runCommands_32
  simp only [J_lit]
  rw [ok_bnd, if_p trivial, M_f1 (by decide) (by decide), ok_s]
  dsimp only
  refine ⟨wr_s, rowN_cong hr ?_, ⟨?_, fun j hj => rowN_cong (hk.2 j hj) ?_⟩, ?_, ?_, ?_, ?_, ⟨fun k a b c _ e => ?_, ?_, ?_⟩⟩
  · rw [wr_k (by decide), wr_k (by decide), wr_k (by decide), z4 293 (by decide) (by decide)]
  · rw [wr_j (by decide), wr_j (by decide), wr_j (by decide), z5 5 (by decide) (by decide)]; exact hk.1
  · rw [wr_k (by decide), wr_k (by decide), wr_k (by decide), z4 294 (by decide) (by decide)]
  · rw [wr_j (by decide), wr_j (by decide), wr_j (by decide), z5 6 (by decide) (by decide)]; exact h6
  · rw [wr_j (by decide), wr_s]
  · rw [wr_j (by decide), wr_j (by decide), wr_s]
  · rw [wr_j (by decide), wr_j (by decide), wr_j (by decide), z5 11 (by decide) (by decide)]
  · rw [wr_k a, wr_k a, wr_k a, z4 k a e]
  · rw [wr_j (by decide), wr_j (by decide), wr_j (by decide), z5 4 (by decide) (by decide)]
  · rw [wr_j (by decide), wr_j (by decide), wr_j (by decide), z5 13 (by decide) (by decide)]
/-- the reference, at the first of the commands -/
theorem M_start (hr : rowN d 293 0 g) (hk : KP d us) (hl : us.length ≤ 8) (h6 : d 292 6 = J 0) (hT : TM d N t) (hTT : TT N t) (hL : lastC N t m) (hb : fine N t m) {Q : Int32 × Dt → Prop} (hQ : ∀ d0, MP d0 us g true → d0 292 7 = J 0 → d0 292 16 = J (m + 1) → (∀ j, j < m + 1 → PM N t d0 j) → rowN d0 296 0 g → d0 292 9 = J 0 → d0 292 10 = d 292 10 → d0 292 11 = d 292 11 → frR d d0 → ok (f_M_runCommands_62 (J 0) (J 0) d0) Q) : ok (f_M_runCommands d) Q := by
  unfold f_M_runCommands
  simp only [J_lit]
  rw [ok_ob2]
  refine ok_mono (M_text hT hTT) (fun z hz => ?_)
  obtain ⟨m', z1, z2, z3, z4, z5⟩ := hz
  have hmm := lastC_u z1 hL
  subst hmm
  obtain ⟨b1, b2, b3⟩ := z2 hb
  rw [b1, if_n n10]
  unfold f_M_runCommands_17 f_M_runCommands_32
  simp only [J_lit]
  rw [ok_bnd, if_n n10, M_f0, show f_M_copies_293_296 (J 0) (J 0) = f_M_copies_293_296 0 0 from rfl, M_copies_293_296, ob1_s, ok_bnd]
  have hr1 : rowN (wr (wr z.2 292 9 (J 0)) 292 7 (J 0)) 293 0 g := rowN_cong hr (by rw [wr_k (by decide), wr_k (by decide), z4 293 (by decide) (by decide)])
  refine hQ _ ⟨rowN_cong hr1 (by rw [wr_k (by decide), wrf_k (by decide)]), ⟨?_, fun j hj => rowN_cong (hk.2 j hj) ?_⟩, hl, wr_s⟩ ?_ ?_ (fun j hj => ?_) (fun j hj => ?_) ?_ ?_ ?_ ⟨fun k a b c e f => ?_, ?_, ?_⟩
  · rw [wr_j (by decide), wrf_k (by decide), wr_j (by decide), wr_j (by decide), z5 5 (by decide) (by decide)]; exact hk.1
  · rw [wr_k (by decide), wrf_k (by decide), wr_k (by decide), wr_k (by decide), z4 294 (by decide) (by decide)]
  · rw [wr_j (by decide), wrf_k (by decide), wr_s]
  · rw [wr_j (by decide), wrf_k (by decide), wr_j (by decide), wr_j (by decide)]; exact b2
  · have h := b3 j hj
    unfold PM
    rw [wr_k (by decide), wrf_k (by decide), wr_k (by decide), wr_k (by decide)]
    exact h
  · have h := hr1 j hj
    rw [wr_k (by decide), wrf_i, if_p (by omega)]
    exact h
  · rw [wr_j (by decide), wrf_k (by decide), wr_j (by decide), wr_s]
  · rw [wr_j (by decide), wrf_k (by decide), wr_j (by decide), wr_j (by decide), z5 10 (by decide) (by decide)]
  · rw [wr_j (by decide), wrf_k (by decide), wr_j (by decide), wr_j (by decide), z5 11 (by decide) (by decide)]
  · rw [wr_k a, wrf_k e, wr_k a, wr_k a, z4 k a f]
  · rw [wr_j (by decide), wrf_k (by decide), wr_j (by decide), wr_j (by decide), z5 4 (by decide) (by decide)]
  · rw [wr_j (by decide), wrf_k (by decide), wr_j (by decide), wr_j (by decide), z5 13 (by decide) (by decide)]
theorem M_good (hr : rowN d 293 0 g) (hk : KP d us) (hl : us.length ≤ 8) (h6 : d 292 6 = J 0) (hT : TM d N t) (hTT : TT N t) (hL : lastC N t m) (hb : fine N t m) (hm : m ≤ 14) (h0 : F 0 = g) (hF : ∀ j, j < m + 1 → SM N t j (F j) (F (j + 1))) : ok (f_M_runCommands d) (fun z => z.1 = J (m + 1) ∧ z.2 292 7 = J 0 ∧ rowN z.2 293 0 (F (m + 1)) ∧ KP z.2 (pushU us g) ∧ z.2 292 6 = J 0 ∧ z.2 292 9 = J 0 ∧ z.2 292 10 = d 292 10 ∧ z.2 292 11 = d 292 11 ∧ frR d z.2) := by
  refine M_start hr hk hl h6 hT hTT hL hb (fun d0 a1 a2 a3 a4 a5 a6 a7 a8 a9 => M_62 a1 a2 a3 hm a4 h0 hF (fun x3 d' h => ?_))
  obtain ⟨m1, m2, m3, m4, m5⟩ := h
  unfold f_M_runCommands_98
  simp only [J_lit]
  rw [ok_bnd, wr_j (by decide), m3, if_p (show J 0 ≤ J 0 by decide), ok_ob1]
  have q296 : rowN (wr d' 292 6 (J 0)) 296 0 g := rowN_cong a5 (by rw [wr_k (by decide), m4 296 (by decide) (by decide) (by decide)])
  have qk : KP (wr d' 292 6 (J 0)) us := ⟨by rw [wr_j (by decide)]; exact m1.1, fun j hj => rowN_cong (m1.2 j hj) (wr_k (by decide))⟩
  refine ok_mono (M_keeps296 q296 qk hl wr_s) (fun d5 h5 => ?_)
  obtain ⟨k1, k2, k3, k4⟩ := h5
  rw [ok_s]
  dsimp only
  have g292 : ∀ j, j ≠ 5 → j ≠ 6 → j ≠ 7 → d5 292 j = d0 292 j := fun j b5 b6 b7 => by rw [k3 j b5 b7, wr_j b6, m5 j b5 b7]
  refine ⟨?_, k4, rowN_cong m2 (by rw [k2 293 (by decide) (by decide), wr_k (by decide)]), k1, ?_, ?_, ?_, ?_, a9.trans ⟨fun k a b c e f => ?_, g292 4 (by decide) (by decide) (by decide), g292 13 (by decide) (by decide) (by decide)⟩⟩
  · show d5 292 16 = _
    rw [g292 16 (by decide) (by decide) (by decide)]; exact a3
  · rw [k3 6 (by decide) (by decide), wr_s]
  · rw [g292 9 (by decide) (by decide) (by decide)]; exact a6
  · rw [g292 10 (by decide) (by decide) (by decide)]; exact a7
  · rw [g292 11 (by decide) (by decide) (by decide)]; exact a8
  · rw [k2 k a c, wr_k a, m4 k a b c]
theorem M_fail (hr : rowN d 293 0 g) (hk : KP d us) (hl : us.length ≤ 8) (h6 : d 292 6 = J 0) (hT : TM d N t) (hTT : TT N t) (hL : lastC N t m) (hb : fine N t m) (hm : m ≤ 14) (h0 : F 0 = g) (hi : i < m + 1) (hF : ∀ j, j < i → SM N t j (F j) (F (j + 1))) (hf : SF N t i (F i)) : ok (f_M_runCommands d) (fun z => z.2 292 7 = J 2 ∧ rowN z.2 293 0 g ∧ KP z.2 us ∧ z.2 292 6 = J 0 ∧ z.2 292 9 = J 0 ∧ z.2 292 10 = d 292 10 ∧ z.2 292 11 = J i ∧ frR d z.2) := by
  refine M_start hr hk hl h6 hT hTT hL hb (fun d0 a1 a2 a3 a4 a5 a6 a7 a8 a9 => M_62f a1 a2 a3 hm a4 h0 hi hF hf (fun x3 d' c c1 c2 h => ?_))
  obtain ⟨m1, m2, m3, m4, m5⟩ := h
  unfold f_M_runCommands_98
  simp only [J_lit]
  rw [ok_bnd, wr_j (by decide), m3, if_n (fun u => by have := (J_le (by omega) (by omega)).mp u; omega), show f_M_copies_296_293 (J 0) (J 0) = f_M_copies_296_293 0 0 from rfl, M_copies_296_293, ob1_s, ok_bnd, ok_bnd]
  have g292 : ∀ j, j ≠ 5 → j ≠ 6 → j ≠ 7 → j ≠ 11 → wr (wr (wrf (wr d' 292 6 (J 0)) 293 (fun q => if q < 187 then wr d' 292 6 (J 0) 296 q else wr d' 292 6 (J 0) 293 q)) 292 11 (J i)) 292 7 (J 2) 292 j = d0 292 j := fun j b5 b6 b7 b11 => by rw [wr_j b7, wr_j b11, wrf_k (by decide), wr_j b6, m5 j b5 b7]
  have key : ∀ v : Int32, (fun z : Int32 × Dt => z.2 292 7 = J 2 ∧ rowN z.2 293 0 g ∧ KP z.2 us ∧ z.2 292 6 = J 0 ∧ z.2 292 9 = J 0 ∧ z.2 292 10 = d 292 10 ∧ z.2 292 11 = J i ∧ frR d z.2) (v, wr (wr (wrf (wr d' 292 6 (J 0)) 293 (fun q => if q < 187 then wr d' 292 6 (J 0) 296 q else wr d' 292 6 (J 0) 293 q)) 292 11 (J i)) 292 7 (J 2)) := fun v => by
    dsimp only
    refine ⟨wr_s, fun q hq => ?_, ⟨?_, fun j hj => rowN_cong (m1.2 j hj) ?_⟩, ?_, ?_, ?_, ?_, a9.trans ⟨fun k a b c e f => ?_, g292 4 (by decide) (by decide) (by decide) (by decide), g292 13 (by decide) (by decide) (by decide) (by decide)⟩⟩
    · have h := a5 q hq
      rw [wr_k (by decide), wr_k (by decide), wrf_i, if_p (by omega), wr_k (by decide), m4 296 (by decide) (by decide) (by decide)]
      exact h
    · rw [wr_j (by decide), wr_j (by decide), wrf_k (by decide), wr_j (by decide)]; exact m1.1
    · rw [wr_k (by decide), wr_k (by decide), wrf_k (by decide), wr_k (by decide)]
    · rw [wr_j (by decide), wr_j (by decide), wrf_k (by decide), wr_s]
    · rw [g292 9 (by decide) (by decide) (by decide) (by decide)]; exact a6
    · rw [g292 10 (by decide) (by decide) (by decide) (by decide)]; exact a7
    · rw [wr_j (by decide), wr_s]
    · rw [wr_k a, wr_k a, wrf_k b, wr_k a, m4 k a b c]
  by_cases u : x3 ≤ J 0
  · rw [if_p u, ok_s]; exact key x3
  · rw [if_n u, ok_s]; exact key (J 0)
/-- everything again, after a text -/
theorem St.fin (h : St D d g us sv e f ln cs om os) (hD : D ≤ D') (hw : WF D' G) (hu : us'.length ≤ 8 ∧ ∀ u ∈ us', WF D' u) (he : e' = -J 1 ∨ ∃ n, n ≤ 60 ∧ e' = J n) (hf : f' = -J 1 ∨ ∃ n, n ≤ 60 ∧ f' = J n) (hS : Sim d2 2 G) (hH : HS d2 us') (f52 : ∀ k, 52 ≤ k → k < 77 → d2 k = d k) (f0 : d2 0 11 = d 0 11) (e12 : d2 0 12 = e') (e13 : d2 0 13 = f') (l1 : d2 287 1 = J 0) (o1 : d2 290 = d 290) (o2 : d2 291 = d 291) (k3 : ∃ k, k < 8 ∧ d2 287 3 = J k) (r : rowN d2 293 0 G) (kp : KP d2 us') (m6 : d2 292 6 = J 0) (m9 : d2 292 9 = J 0) (m10 : d2 292 10 = e') (m11 : d2 292 11 = f') (hM : d2 292 4 = d 292 4 ∧ d2 292 13 = d 292 13 ∧ d2 295 = d 295 ∧ d2 298 = d 298) : Inv D' d2 := by
  obtain ⟨h1, h2, h3, h4, h5, h6⟩ := h
  have h2' := h2.mono hD
  obtain ⟨b1, b2, b3, b4, b5, b6, b7⟩ := h4
  obtain ⟨c1, c2, c3, c4, c5, c6, c7⟩ := h6
  obtain ⟨x1, x2, x3, x4⟩ := hM
  refine ⟨G, us', sv, e', f', 0, cs, om, os, hw, ⟨hu, h2'.2.1, he, hf, ⟨Nat.zero_le _, fun j hj => absurd hj (Nat.not_lt_zero j)⟩, h2'.2.2.2.2.2⟩, hS, ⟨hH, ⟨by rw [f0]; exact b2.1, fun s hs => (b2.2 s hs).same (h2.2.1 s hs).nl (fun k h7 h8 => f52 k h7 (by omega))⟩, e12, e13, ⟨l1, fun j hj => absurd hj (Nat.not_lt_zero j)⟩, ?_, k3⟩, r, ⟨kp, ⟨by rw [x1]; exact c2.1, fun s hs => rowN_cong (c2.2 s hs) x3⟩, m10, m11, ⟨m9, fun j hj => absurd hj (Nat.not_lt_zero j)⟩, ?_, m6⟩⟩
  · rw [o1, o2]; exact b6
  · rw [x2, x4]; exact c6
theorem P_runCommands (h : St D d g us sv e f ln cs om os) (hD : D + 135 ≤ D') (hB : D' < 100000) : ok (f_W_runCommands d) (Pr (fun d => f_M_runCommands d) D') := by
  have hw := h.wf
  have hul := h.ul
  have huw := h.uw
  have hTT : TT ln cs := h.2.1.2.2.2.2.1
  have hT : TC d ln cs := h.2.2.2.1.2.2.2.2.1
  have hTM : TM d ln cs := h.2.2.2.2.2.2.2.2.2.1
  have hk3 : ∃ k, k < 8 ∧ d 287 3 = J k := h.2.2.2.1.2.2.2.2.2.2
  have c12 : d 0 12 = e := h.2.2.2.1.2.2.1
  have c13 : d 0 13 = f := h.2.2.2.1.2.2.2.1
  have c10 : d 292 10 = e := h.2.2.2.2.2.2.2.1
  have c11 : d 292 11 = f := h.2.2.2.2.2.2.2.2.1
  have c6 : d 292 6 = J 0 := h.2.2.2.2.2.2.2.2.2.2.2
  have he : e = -J 1 ∨ ∃ n, n ≤ 60 ∧ e = J n := h.2.1.2.2.1
  have hf : f = -J 1 ∨ ∃ n, n ≤ 60 ∧ f = J n := h.2.1.2.2.2.1
  have h60 := hTT.1
  unfold f_W_runCommands f_C_runCommands f_I_empty
  simp only [J_lit]
  rw [ok_ocW, ok_ob2]
  refine ok_mono (I_count hT hTT hk3) (fun z hz => ?_)
  obtain ⟨m, hL, z1, z2, z3, z4⟩ := hz
  have hpos := cmdR_le (t := cs) (cp_in m hL.1)
  by_cases hb : fine ln cs m
  · have hm : m ≤ 14 := fine_le hTT hL.1 hb.1
    have hz1 := z1 hb
    have S1 : Sim z.2 2 g := h.sim.same hw.nl (fun k h1 h2 => z3.1 k (by omega) (by omega))
    rw [hz1, if_n (fun u => (J_ne1 (by omega)).mp u), ok_ob1]
    refine ok_mono (S_copyFrom (a := 27) (b := 2) (by decide) z.2 (Sim_bt S1)) (fun d3 h3 => ?_)
    have S27 : Sim d3 27 g := S1.alike hw h3.1
    have S2 : Sim d3 2 g := S1.same hw.nl (fun k h1 h2 => h3.2 k (by omega))
    have T3 : TC d3 ln cs := ⟨by rw [h3.2 287 (by omega)]; exact (z3.tc hT).1, fun j hj => by rw [h3.2 288 (by omega)]; exact (z3.tc hT).2 j hj⟩
    have k33 : ∃ k, k < 8 ∧ d3 287 3 = J k := by rw [h3.2 287 (by omega)]; exact z4
    rw [ok_ob2]
    refine ok_mono (C_all S2 hw (by omega) T3 hTT hL hb hm k33) (fun y hy => ?_)
    obtain ⟨y1, y2, y3, F, y4, y5⟩ := hy
    have fA : ∀ k, k < 2 ∨ (52 ≤ k ∧ k < 277) ∨ k = 288 ∨ 290 ≤ k → y.2 k = d k := fun k hk => by rw [y3 k (by omega), h3.2 k (by omega), z3.1 k (by omega) (by omega)]
    have H5 : ∀ d6, (∀ k, k ≠ 287 → k ≠ 0 → d6 k = y.2 k) → d6 0 10 = d 0 10 → d6 0 9 = d 0 9 → HS d6 us := fun d6 h6 h10 h9 => by
      obtain ⟨a1, nu, a2, a3, a4⟩ := h.hs
      exact ⟨by rw [h10]; exact a1, nu, a2, by rw [h9]; exact a3, fun j hj => (a4 j hj).same (huw _ (getD_mem hj)).nl (fun k h7 h8 => by rw [h6 k (by omega) (by omega), fA k (by omega)])⟩
    rw [ok_ob1, ok_bnd, ok_s]
    rcases y5 with ⟨r1, r2, r3, r4⟩ | ⟨i, i1, i2, i3, i4⟩
    · rw [r1, if_p rfl, ok_ob1]
      have S27' : Sim (wr y.2 287 1 (J 0)) 27 g := S27.same hw.nl (fun k h1 h2 => by rw [wr_k (by omega), y3 k (by omega)])
      have HS6 := H5 (wr y.2 287 1 (J 0)) (fun k h1 _ => wr_k h1) (by rw [wr_k (by decide), fA 0 (by omega)]) (by rw [wr_k (by decide), fA 0 (by omega)])
      unfold f_C_remember_0_27
      refine ok_mono (C_remember_gen (b := 27) (k33 := f_C_remember_0_27_33) (Or.inr rfl) (fun v d => rfl) hw huw hul S27' HS6) (fun d7 h7 => ?_)
      obtain ⟨p1, p2, p3⟩ := h7
      rw [ok_s, Sum.elim_inl, ok_bnd, ok_s]
      dsimp only
      have fB : ∀ k, (52 ≤ k ∧ k < 77) ∨ 290 ≤ k → d7 k = d k := fun k hk => by rw [p2 k (by omega) (by omega), wr_k (by omega), fA k (by omega)]
      have hWF : WF D' (F (m + 1)) := r4.mono (by omega)
      have hpu : ∀ u ∈ pushU us g, WF D' u := fun u hu => (pushU_WF huw hw u hu).mono (by omega)
      have hr0 : rowN (wr d7 300 0 (J (m + 1))) 293 0 g := rowN_cong h.row (by rw [wr_k (by decide), fB 293 (by omega)])
      have hk0 : KP (wr d7 300 0 (J (m + 1))) us := ⟨by rw [wr_k (by decide), fB 292 (by omega)]; exact h.kp.1, fun j hj => rowN_cong (h.kp.2 j hj) (by rw [wr_k (by decide), fB 294 (by omega)])⟩
      have e6 : wr d7 300 0 (J (m + 1)) 292 6 = J 0 := by rw [wr_k (by decide), fB 292 (by omega)]; exact c6
      have hTM7 : TM (wr d7 300 0 (J (m + 1))) ln cs := ⟨by rw [wr_k (by decide), fB 292 (by omega)]; exact hTM.1, fun j hj => by rw [wr_k (by decide), fB 297 (by omega)]; exact hTM.2 j hj⟩
      refine ⟨0, by decide, rfl, ok_mono (M_good hr0 hk0 hul e6 hTM7 hTT hL hb hm y4 r2) (fun u hu => ?_)⟩
      obtain ⟨u1, u2, u3, u4, u5, u6, u7, u8, u9⟩ := hu
      dsimp only at u7 u8 u9
      have g1 : ∀ k, k < 292 → u.2 k = d7 k := fun k hk => by rw [u9.1 k (by omega) (by omega) (by omega) (by omega) (by omega), wr_k (by omega)]
      refine ⟨u2, fun _ => ?_, h.fin (G := F (m + 1)) (us' := pushU us g) (e' := e) (f' := f) (by omega) hWF ⟨pushU_len hul, hpu⟩ he hf ?_ ?_ (fun k a b => ?_) ?_ ?_ ?_ ?_ ?_ ?_ ?_ u3 u4 u5 u6 ?_ ?_ ⟨?_, ?_, ?_, ?_⟩⟩
      · rw [u9.1 300 (by decide) (by decide) (by decide) (by decide) (by decide), wr_s, u1]
      · exact r3.same hWF.nl (fun k a b => by rw [g1 k (by omega), p2 k (by omega) (by omega), wr_k (by omega)])
      · obtain ⟨a1, nu, a2, a3, a4⟩ := p1
        exact ⟨by rw [g1 0 (by decide)]; exact a1, nu, a2, by rw [g1 0 (by decide)]; exact a3, fun j hj => (a4 j hj).same (hpu _ (getD_mem hj)).nl (fun k h7 h8 => g1 k (by have := hj; omega))⟩
      · rw [g1 k (by omega), fB k (by omega)]
      · rw [g1 0 (by decide), p3 11 (by decide) (by decide), wr_k (by decide), fA 0 (by omega)]
      · rw [g1 0 (by decide), p3 12 (by decide) (by decide), wr_k (by decide), fA 0 (by omega)]; exact c12
      · rw [g1 0 (by decide), p3 13 (by decide) (by decide), wr_k (by decide), fA 0 (by omega)]; exact c13
      · rw [g1 287 (by decide), p2 287 (by decide) (by omega), wr_s]
      · rw [g1 290 (by decide), fB 290 (by omega)]
      · rw [g1 291 (by decide), fB 291 (by omega)]
      · obtain ⟨k, k1, k2⟩ := y2
        exact ⟨k, k1, by rw [g1 287 (by decide), p2 287 (by decide) (by omega), wr_j (by decide)]; exact k2⟩
      · rw [u7, wr_k (by decide), fB 292 (by omega)]; exact c10
      · rw [u8, wr_k (by decide), fB 292 (by omega)]; exact c11
      · rw [u9.2.1, wr_k (by decide), fB 292 (by omega)]
      · rw [u9.2.2, wr_k (by decide), fB 292 (by omega)]
      · rw [u9.1 295 (by decide) (by decide) (by decide) (by decide) (by decide), wr_k (by decide), fB 295 (by omega)]
      · rw [u9.1 298 (by decide) (by decide) (by decide) (by decide) (by decide), wr_k (by decide), fB 298 (by omega)]
    · rw [i2, if_n (fun u => (J_ne1 (by omega)).mp u), ok_bnd, ok_ob1]
      have S27' : Sim (wr (wr y.2 287 1 (J 0)) 0 13 (J i)) 27 g := S27.same hw.nl (fun k h1 h2 => by rw [wr_k (by omega), wr_k (by omega), y3 k (by omega)])
      refine ok_mono (S_copyFrom (a := 2) (b := 27) (by decide) _ (Sim_bt S27')) (fun d7 h7 => ?_)
      have S7 : Sim d7 2 g := S27'.alike hw h7.1
      have fB : ∀ k, k = 1 ∨ (52 ≤ k ∧ k < 277) ∨ 290 ≤ k → d7 k = d k := fun k hk => by rw [h7.2 k (by omega), wr_k (by omega), wr_k (by omega), fA k (by omega)]
      have fZ : ∀ j, j ≠ 13 → d7 0 j = d 0 j := fun j hj => by rw [h7.2 0 (by omega), wr_j hj, wr_k (by decide), fA 0 (by omega)]
      rw [ok_s, Sum.elim_inr]
      show ok (if (5 : Nat) = 2 then some (J 1, d7) else if (5 : Nat) = 5 then some (J 2, d7) else none) _
      rw [if_n (by decide), if_p rfl, ok_s]
      have hr0 : rowN d7 293 0 g := rowN_cong h.row (fB 293 (by omega))
      have hk0 : KP d7 us := ⟨by rw [fB 292 (by omega)]; exact h.kp.1, fun j hj => rowN_cong (h.kp.2 j hj) (fB 294 (by omega))⟩
      have e6 : d7 292 6 = J 0 := by rw [fB 292 (by omega)]; exact c6
      have hTM7 : TM d7 ln cs := ⟨by rw [fB 292 (by omega)]; exact hTM.1, fun j hj => by rw [fB 297 (by omega)]; exact hTM.2 j hj⟩
      refine ⟨2, by decide, rfl, ok_mono (M_fail hr0 hk0 hul e6 hTM7 hTT hL hb hm y4 i1 i3 i4) (fun u hu => ?_)⟩
      obtain ⟨u2, u3, u4, u5, u6, u7, u8, u9⟩ := hu
      dsimp only at u7 u9
      have g1 : ∀ k, k < 292 → u.2 k = d7 k := fun k hk => u9.1 k (by omega) (by omega) (by omega) (by omega) (by omega)
      refine ⟨u2, fun q => absurd q (by decide), h.fin (G := g) (us' := us) (e' := e) (f' := J i) (by omega) (hw.mono (by omega)) ⟨hul, fun u hu => (huw u hu).mono (by omega)⟩ he (Or.inr ⟨i, by omega, rfl⟩) ?_ ?_ (fun k a b => ?_) ?_ ?_ ?_ ?_ ?_ ?_ ?_ u3 u4 u5 u6 ?_ u8 ⟨?_, ?_, ?_, ?_⟩⟩
      · exact S7.same hw.nl (fun k a b => g1 k (by omega))
      · obtain ⟨a1, nu, a2, a3, a4⟩ := h.hs
        exact ⟨by rw [g1 0 (by decide), fZ 10 (by decide)]; exact a1, nu, a2, by rw [g1 0 (by decide), fZ 9 (by decide)]; exact a3, fun j hj => (a4 j hj).same (huw _ (getD_mem hj)).nl (fun k h7 h8 => by rw [g1 k (by omega), fB k (by omega)])⟩
      · rw [g1 k (by omega), fB k (by omega)]
      · rw [g1 0 (by decide), fZ 11 (by decide)]
      · rw [g1 0 (by decide), fZ 12 (by decide)]; exact c12
      · rw [g1 0 (by decide), h7.2 0 (by omega), wr_s]
      · rw [g1 287 (by decide), h7.2 287 (by omega), wr_k (by decide), wr_s]
      · rw [g1 290 (by decide), fB 290 (by omega)]
      · rw [g1 291 (by decide), fB 291 (by omega)]
      · obtain ⟨k, k1, k2⟩ := y2
        exact ⟨k, k1, by rw [g1 287 (by decide), h7.2 287 (by omega), wr_k (by decide), wr_j (by decide)]; exact k2⟩
      · rw [u7, fB 292 (by omega)]; exact c10
      · rw [u9.2.1, fB 292 (by omega)]
      · rw [u9.2.2, fB 292 (by omega)]
      · rw [u9.1 295 (by decide) (by decide) (by decide) (by decide) (by decide), fB 295 (by omega)]
      · rw [u9.1 298 (by decide) (by decide) (by decide) (by decide) (by decide), fB 298 (by omega)]
  · obtain ⟨b1, b2⟩ := z2 hb
    rw [b1, if_p rfl, b2, ok_bnd, ok_ob1, ok_bnd, ok_s, ok_s, Sum.elim_inr]
    have fZ : ∀ k, k ≠ 0 → k ≠ 287 → k ≠ 289 → wr (wr z.2 0 12 (J (cmdR ln cs (cp ln cs m)).2.1)) 287 1 (J 0) k = d k := fun k a b c => by rw [wr_k b, wr_k a, z3.1 k b c]
    have f00 : ∀ j, j ≠ 12 → wr (wr z.2 0 12 (J (cmdR ln cs (cp ln cs m)).2.1)) 287 1 (J 0) 0 j = d 0 j := fun j hj => by rw [wr_k (by decide), wr_j hj, z3.1 0 (by decide) (by decide)]
    have e012 : wr (wr z.2 0 12 (J (cmdR ln cs (cp ln cs m)).2.1)) 287 1 (J 0) 0 12 = J (cmdR ln cs (cp ln cs m)).2.1 := by rw [wr_k (by decide), wr_s]
    have e287 : wr (wr z.2 0 12 (J (cmdR ln cs (cp ln cs m)).2.1)) 287 1 (J 0) 287 1 = J 0 := wr_s
    have k287 : ∃ k, k < 8 ∧ wr (wr z.2 0 12 (J (cmdR ln cs (cp ln cs m)).2.1)) 287 1 (J 0) 287 3 = J k := by
      obtain ⟨k, k1, k2⟩ := z4
      exact ⟨k, k1, by rw [wr_j (by decide), wr_k (by decide)]; exact k2⟩
    generalize wr (wr z.2 0 12 (J (cmdR ln cs (cp ln cs m)).2.1)) 287 1 (J 0) = d7 at fZ f00 e012 e287 k287 ⊢
    show ok (if (2 : Nat) = 2 then some (J 1, d7) else _) _
    rw [if_p rfl, ok_s]
    have hr0 : rowN d7 293 0 g := rowN_cong h.row (fZ 293 (by decide) (by decide) (by decide))
    have hk0 : KP d7 us := ⟨by rw [fZ 292 (by decide) (by decide) (by decide)]; exact h.kp.1, fun j hj => rowN_cong (h.kp.2 j hj) (fZ 294 (by decide) (by decide) (by decide))⟩
    have e6 : d7 292 6 = J 0 := by rw [fZ 292 (by decide) (by decide) (by decide)]; exact c6
    have hTM7 : TM d7 ln cs := ⟨by rw [fZ 292 (by decide) (by decide) (by decide)]; exact hTM.1, fun j hj => by rw [fZ 297 (by decide) (by decide) (by decide)]; exact hTM.2 j hj⟩
    refine ⟨1, by decide, rfl, ok_mono (M_bad hr0 hk0 e6 hTM7 hTT hL hb) (fun u hu => ?_)⟩
    obtain ⟨u2, u3, u4, u5, u6, u7, u8, u9⟩ := hu
    dsimp only at u8 u9
    have g1 : ∀ k, k < 292 → u.2 k = d7 k := fun k hk => u9.1 k (by omega) (by omega) (by omega) (by omega) (by omega)
    refine ⟨u2, fun q => absurd q (by decide), h.fin (G := g) (us' := us) (e' := J (cmdR ln cs (cp ln cs m)).2.1) (f' := f) (by omega) (hw.mono (by omega)) ⟨hul, fun u hu => (huw u hu).mono (by omega)⟩ (Or.inr ⟨_, by omega, rfl⟩) hf ?_ ?_ (fun k a b => ?_) ?_ ?_ ?_ ?_ ?_ ?_ ?_ u3 u4 u5 u6 u7 ?_ ⟨?_, ?_, ?_, ?_⟩⟩
    · exact h.sim.same hw.nl (fun k a b => by rw [g1 k (by omega), fZ k (by omega) (by omega) (by omega)])
    · obtain ⟨a1, nu, a2, a3, a4⟩ := h.hs
      exact ⟨by rw [g1 0 (by decide), f00 10 (by decide)]; exact a1, nu, a2, by rw [g1 0 (by decide), f00 9 (by decide)]; exact a3, fun j hj => (a4 j hj).same (huw _ (getD_mem hj)).nl (fun k h7 h8 => by rw [g1 k (by omega), fZ k (by omega) (by omega) (by omega)])⟩
    · rw [g1 k (by omega), fZ k (by omega) (by omega) (by omega)]
    · rw [g1 0 (by decide), f00 11 (by decide)]
    · rw [g1 0 (by decide)]; exact e012
    · rw [g1 0 (by decide), f00 13 (by decide)]; exact c13
    · rw [g1 287 (by decide)]; exact e287
    · rw [g1 290 (by decide), fZ 290 (by decide) (by decide) (by decide)]
    · rw [g1 291 (by decide), fZ 291 (by decide) (by decide) (by decide)]
    · rw [g1 287 (by decide)]; exact k287
    · rw [u8, fZ 292 (by decide) (by decide) (by decide)]; exact c11
    · rw [u9.2.1, fZ 292 (by decide) (by decide) (by decide)]
    · rw [u9.2.2, fZ 292 (by decide) (by decide) (by decide)]
    · rw [u9.1 295 (by decide) (by decide) (by decide) (by decide) (by decide), fZ 295 (by decide) (by decide) (by decide)]
    · rw [u9.1 298 (by decide) (by decide) (by decide) (by decide) (by decide), fZ 298 (by decide) (by decide) (by decide)]
theorem law_runCommands (h : St D d g us sv e f ln cs om os) (hD : D + 1 + 134 ≤ D') (hB : D' < 100000) : ok (f_W_law_2549 L xs (J i) d) (fun y => ∃ d', y = .inl (J i + 5, d') ∧ Inv D' d') := by
  unfold f_W_law_2549
  exact tail_i (P := Inv D') (M := fun d => f_M_runCommands d) (P_runCommands h (by omega) hB)
end RUN
