/-! 33: the law's case: the lantern of a rank -/
section RANK
variable {D D' : Nat} {d d1 d2 : Dt} {g g' : Nat → Nat} {us us' : List (Nat → Nat)} {sv : Option (Nat → Nat)} {e f : Int32} {ln : Nat} {cs : Nat → Nat} {om : Nat} {os : Nat → Nat} {L i : Nat} {xs : Nat → Int32} {b : Bool}
/-- one to one is onto -/
theorem pigeon : ∀ (n : Nat) (f : Nat → Nat), (∀ i, i < n → f i < n) → (∀ i j, i < n → j < n → f i = f j → i = j) → ∀ r, r < n → ∃ i, i < n ∧ f i = r := by
  intro n
  induction n with
  | zero => intro f _ _ r hr; omega
  | succ n ih =>
    intro f h1 h2 r hr
    have hinj : ∀ i, i < n → f i ≠ f n := fun i hi q => by have := h2 i n (by omega) (by omega) q; omega
    have hn := h1 n (by omega)
    have G := ih (fun i => if f i = n then f n else f i) (fun i hi => by
      have := hinj i hi
      have := h1 i (by omega)
      by_cases q : f i = n
      · rw [if_p q]; omega
      · rw [if_n q]; omega) (fun i j hi hj q => by
      have a1 := hinj i hi
      have a2 := hinj j hj
      by_cases q1 : f i = n
      · rw [if_p q1] at q
        by_cases q2 : f j = n
        · exact h2 i j (by omega) (by omega) (q1.trans q2.symm)
        · rw [if_n q2] at q
          exact absurd q.symm a2
      · rw [if_n q1] at q
        by_cases q2 : f j = n
        · rw [if_p q2] at q
          exact absurd q a1
        · rw [if_n q2] at q
          exact h2 i j (by omega) (by omega) q)
    by_cases q : f n = r
    · exact ⟨n, by omega, q⟩
    · by_cases q1 : r = n
      · obtain ⟨i, hi, e⟩ := G (f n) (by omega)
        by_cases q2 : f i = n
        · exact ⟨i, by omega, q2.trans q1.symm⟩
        · rw [if_n q2] at e
          exact absurd e (hinj i hi)
      · obtain ⟨i, hi, e⟩ := G r (by omega)
        by_cases q2 : f i = n
        · rw [if_p q2] at e
          exact absurd e q
        · rw [if_n q2] at e
          exact ⟨i, by omega, e⟩
/-- brightness, days to serve, number: one key -/
def key (g : Nat → Nat) (i : Nat) : Nat := g (13 + 11 * i) * 100000 + (100 - srv g i) * 100 + i
def rkn (g : Nat → Nat) (i : Nat) : Nat → Nat
  | 0 => 0
  | n + 1 => rkn g i n + (if key g n < key g i then 1 else 0)
theorem srv_le (hw : WF D g) (hi : i < g 0) : srv g i ≤ 72 := by
  have h1 := sums_le (g := g) (b := 16 + 11 * i) (m := 9) (g (15 + 11 * i)) (fun j hj => ((hw.2.1 i hi).2.2.2 j hj).2)
  have h2 := hw.sc hi
  unfold srv
  omega
theorem rkn_le : ∀ n, rkn g i n ≤ n := by
  intro n
  induction n with
  | zero => exact Nat.le_refl 0
  | succ n ih =>
    show rkn g i n + (if key g n < key g i then 1 else 0) ≤ n + 1
    by_cases h : key g n < key g i
    · rw [if_p h]; omega
    · rw [if_n h]; omega
theorem rkn_lt {n : Nat} (hi : i < n) : rkn g i n < n := by
  induction n with
  | zero => omega
  | succ n ih =>
    show rkn g i n + (if key g n < key g i then 1 else 0) < n + 1
    by_cases h : i = n
    · rw [h, if_n (Nat.lt_irrefl _)]
      have := rkn_le (g := g) (i := n) n
      omega
    · have := ih (by omega)
      by_cases h : key g n < key g i
      · rw [if_p h]; omega
      · rw [if_n h]; omega
theorem rkn_mono {i j : Nat} (h : key g i < key g j) : ∀ n, rkn g i n ≤ rkn g j n ∧ (i < n → rkn g i n < rkn g j n) := by
  intro n
  induction n with
  | zero => exact ⟨Nat.le_refl 0, fun q => by omega⟩
  | succ n ih =>
    show rkn g i n + (if key g n < key g i then 1 else 0) ≤ rkn g j n + (if key g n < key g j then 1 else 0) ∧ (i < n + 1 → rkn g i n + (if key g n < key g i then 1 else 0) < rkn g j n + (if key g n < key g j then 1 else 0))
    by_cases h1 : key g n < key g i
    · rw [if_p h1, if_p (Nat.lt_trans h1 h)]
      refine ⟨by omega, fun q => ?_⟩
      have : i ≠ n := fun t => by rw [t] at h1; exact Nat.lt_irrefl _ h1
      have := ih.2 (by omega)
      omega
    · rw [if_n h1]
      by_cases h2 : key g n < key g j
      · rw [if_p h2]
        exact ⟨by omega, fun q => by omega⟩
      · rw [if_n h2]
        refine ⟨by omega, fun q => ?_⟩
        have : i ≠ n := fun t => by rw [t] at h; exact h2 h
        have := ih.2 (by omega)
        omega
theorem key_inj {i j : Nat} (hw : WF D g) (hi : i < g 0) (hj : j < g 0) (h : key g i = key g j) : i = j := by
  have h8 := hw.nl
  have a := srv_le hw hi
  have b := srv_le hw hj
  unfold key at h
  omega
theorem rkn_inj {i j : Nat} (hw : WF D g) (hi : i < g 0) (hj : j < g 0) (h : rkn g i (g 0) = rkn g j (g 0)) : i = j := by
  rcases Nat.lt_trichotomy (key g i) (key g j) with q | q | q
  · have := (rkn_mono q (g 0)).2 hi
    omega
  · exact key_inj hw hi hj q
  · have := (rkn_mono q (g 0)).2 hj
    omega
theorem C_before {i j : Nat} (hS : Sim d 2 g) (hw : WF D g) (hi : i < g 0) (hj : j < g 0) : f_L_comesBefore (J i) (J j) d = some (J (if key g i < key g j then 1 else 0)) := by
  have h8 := hw.nl
  have a := srv_le hw hi
  have b := srv_le hw hj
  have b1 := (hw.2.1 i hi).1
  have b2 := (hw.2.1 j hj).1
  have e1 : d 4 i = J (g (13 + 11 * i)) := hS.bri hi
  have e2 : d 4 j = J (g (13 + 11 * j)) := hS.bri hj
  unfold f_L_comesBefore
  simp only [J_lit]
  rw [J_inb (by omega), gd_d (by omega), J_inb (by omega), gd_d (by omega), J_nat (by omega), J_nat (by omega), e1, e2, C_toServe hS hw hi, C_toServe hS hw hj, ob1_s, ob1_s]
  unfold key
  by_cases q1 : g (13 + 11 * i) = g (13 + 11 * j)
  · rw [if_p (by rw [q1])]
    by_cases q2 : srv g i = srv g j
    · rw [if_p (by rw [q2])]
      by_cases q3 : j ≤ i
      · rw [if_p ((J_le (by omega) (by omega)).mpr q3), if_n (by omega)]
      · rw [if_n (fun t => q3 ((J_le (by omega) (by omega)).mp t)), if_p (by omega)]
    · rw [if_n (J_ne q2 (by omega) (by omega))]
      by_cases q3 : srv g i ≤ srv g j
      · rw [if_p ((J_le (by omega) (by omega)).mpr q3), if_n (by omega)]
      · rw [if_n (fun t => q3 ((J_le (by omega) (by omega)).mp t)), if_p (by omega)]
  · rw [if_n (J_ne q1 (by omega) (by omega)), gd_d (by omega), gd_d (by omega)]
    by_cases q3 : g (13 + 11 * j) ≤ g (13 + 11 * i)
    · rw [if_p ((J_le (by omega) (by omega)).mpr q3), if_n (by omega)]
    · rw [if_n (fun t => q3 ((J_le (by omega) (by omega)).mp t)), if_p (by omega)]
theorem M_ahead {i j : Nat} (hr : rowN d 293 0 g) (hw : WF D g) (hi : i < g 0) (hj : j < g 0) : f_M_isAhead (J i) (J j) d = some (J (if key g i < key g j then 1 else 0)) := by
  have h8 := hw.nl
  have a := srv_le hw hi
  have b := srv_le hw hj
  have b1 := (hw.2.1 i hi).1
  have b2 := (hw.2.1 j hj).1
  have e1 : d 293 (13 + 11 * i + 0) = J (g (13 + 11 * i)) := hr.at (by omega)
  have e2 : d 293 (13 + 11 * j + 0) = J (g (13 + 11 * j)) := hr.at (by omega)
  unfold f_M_isAhead
  simp only [J_lit]
  simp only [M_of (i := i) (k := 0) (by omega) (by decide), M_of (i := j) (k := 0) (by omega) (by decide), ob1_s, e1, e2, M_toServe hr hw hi, M_toServe hr hw hj]
  unfold key
  by_cases q1 : g (13 + 11 * i) = g (13 + 11 * j)
  · rw [if_p (by rw [q1])]
    by_cases q2 : srv g i = srv g j
    · rw [if_p (by rw [q2])]
      by_cases q3 : j ≤ i
      · rw [if_p ((J_le (by omega) (by omega)).mpr q3), if_n (by omega)]
      · rw [if_n (fun t => q3 ((J_le (by omega) (by omega)).mp t)), if_p (by omega)]
    · rw [if_n (J_ne q2 (by omega) (by omega))]
      by_cases q3 : srv g i ≤ srv g j
      · rw [if_p ((J_le (by omega) (by omega)).mpr q3), if_n (by omega)]
      · rw [if_n (fun t => q3 ((J_le (by omega) (by omega)).mp t)), if_p (by omega)]
  · rw [if_n (J_ne q1 (by omega) (by omega))]
    by_cases q3 : g (13 + 11 * j) ≤ g (13 + 11 * i)
    · rw [if_p ((J_le (by omega) (by omega)).mpr q3), if_n (by omega)]
    · rw [if_n (fun t => q3 ((J_le (by omega) (by omega)).mp t)), if_p (by omega)]
theorem C_rank15 {i : Nat} {x : Int32} (hS : Sim d 2 g) (hw : WF D g) (hi : i < g 0) : f_L_atRank_15 x (J i) (J 0) (J 0) d = some (if J (rkn g i (g 0)) = x then .inr (J i) else .inl (J (i + 1))) := by
  have h8 := hw.nl
  have e3 : d 3 0 = J (g 0) := hS.nl
  apply ok_eq
  unfold f_L_atRank_15
  refine iter_up 0 (g 0) (fun n s => s = (J (rkn g i n), J n)) rfl (by omega) (by omega) ?_ ?_
  · intro n s hn hs
    subst hs
    have hle := rkn_le (g := g) (i := i) n
    unfold st_L_atRank_15
    simp only [J_lit]
    rw [e3, if_n (fun q => by have := (J_le (by omega) (by omega)).mp q; omega), C_before hS hw hn hi, ob1_s]
    by_cases q : key g n < key g i
    · rw [if_p q, if_n n10, ok_s, J_add, J_add]
      refine Or.inl ⟨_, rfl, ?_⟩
      show _ = (J (rkn g i n + (if key g n < key g i then 1 else 0)), J (n + 1))
      rw [if_p q]
    · rw [if_n q, if_p rfl, ok_s, J_add]
      refine Or.inl ⟨_, rfl, ?_⟩
      show _ = (J (rkn g i n + (if key g n < key g i then 1 else 0)), J (n + 1))
      rw [if_n q]
      rfl
  · intro s hs
    subst hs
    unfold st_L_atRank_15
    simp only [J_lit]
    rw [e3, if_p ((J_le (by omega) (by omega)).mpr (Nat.le_refl _)), ok_ir]
    by_cases q : J (rkn g i (g 0)) = x
    · rw [if_p q, ok_ir, ok_s]
      refine ⟨_, rfl, ?_⟩
      rw [if_p q]
    · rw [if_n q, ok_s, J_add]
      refine ⟨_, rfl, ?_⟩
      rw [if_n q]
theorem M_rank17 {i : Nat} {x : Int32} (hr : rowN d 293 0 g) (hw : WF D g) (hi : i < g 0) : f_M_lanternByBrightness_17 x (J i) (J 0) (J 0) d = some (if J (rkn g i (g 0)) = x then .inr (J i, wr d 292 7 (J 0)) else .inl (J (i + 1))) := by
  have h8 := hw.nl
  have e3 : d 293 0 = J (g 0) := hr.at (by decide)
  apply ok_eq
  unfold f_M_lanternByBrightness_17
  refine iter_up 0 (g 0) (fun n s => s = (J (rkn g i n), J n)) rfl (by omega) (by omega) ?_ ?_
  · intro n s hn hs
    subst hs
    unfold st_M_lanternByBrightness_17
    simp only [J_lit]
    rw [e3, if_n (fun q => by have := (J_le (by omega) (by omega)).mp q; omega)]
    by_cases qi : n = i
    · rw [if_p (by rw [qi]), ok_s, J_add, J_add]
      refine Or.inl ⟨_, rfl, ?_⟩
      show _ = (J (rkn g i n + (if key g n < key g i then 1 else 0)), J (n + 1))
      rw [if_n (by rw [qi]; exact Nat.lt_irrefl _)]
    · rw [if_n (J_ne qi (by omega) (by omega)), M_ahead hr hw hn hi, ob1_s]
      by_cases q : key g n < key g i
      · rw [if_p q, if_n n10, ok_s, J_add, J_add]
        refine Or.inl ⟨_, rfl, ?_⟩
        show _ = (J (rkn g i n + (if key g n < key g i then 1 else 0)), J (n + 1))
        rw [if_p q]
      · rw [if_n q, if_p rfl, ok_s, J_add, J_add]
        refine Or.inl ⟨_, rfl, ?_⟩
        show _ = (J (rkn g i n + (if key g n < key g i then 1 else 0)), J (n + 1))
        rw [if_n q]
  · intro s hs
    subst hs
    unfold st_M_lanternByBrightness_17
    simp only [J_lit]
    rw [e3, if_p ((J_le (by omega) (by omega)).mpr (Nat.le_refl _)), ok_ir]
    by_cases q : J (rkn g i (g 0)) = x
    · rw [if_p q, ok_ir, ok_bnd, ok_s]
      refine ⟨_, rfl, ?_⟩
      rw [if_p q]
    · rw [if_n q, ok_s, J_add]
      refine ⟨_, rfl, ?_⟩
      rw [if_n q]
theorem P_rank {x : Int32} (h : St D d g us sv e f ln cs om os) : ok (f_W_lanternByBrightness x d) (Pr (fun d => f_M_lanternByBrightness x d) D) := by
  have hw := h.wf
  have h8 := hw.nl
  have e3 : d 3 0 = J (g 0) := h.sim.nl
  unfold f_W_lanternByBrightness f_C_lanternByBrightness
  simp only [J_lit]
  by_cases q : isIn (g 0) x
  · rw [(C_has h.sim h8).1 q, ob1_s, if_n n10]
    obtain ⟨r, hr, rfl⟩ := q
    obtain ⟨k, hk, ek⟩ := pigeon (g 0) (fun i => rkn g i (g 0)) (fun i hi => rkn_lt hi) (fun i j hi hj q => rkn_inj hw hi hj q) r hr
    have ne : ∀ i, i < k → ¬ J (rkn g i (g 0)) = J r := fun i hi q => by
      have l1 := rkn_lt (g := g) (show i < g 0 by omega)
      have := (J_inj (by omega) (by omega)).mp q
      have := rkn_inj hw (show i < g 0 by omega) hk (this.trans ek.symm)
      omega
    have ea : f_L_atRank (J r) d = some (J k) := by
      apply ok_eq
      unfold f_L_atRank f_L_atRank_2
      simp only [J_lit]
      refine iter_up 0 k (fun n s => s = J n) rfl (by omega) (by omega) ?_ ?_
      · intro n s hn hs
        subst hs
        unfold st_L_atRank_2
        simp only [J_lit]
        rw [e3, if_n (fun q => by have := (J_le (by omega) (by omega)).mp q; omega), C_rank15 h.sim hw (by omega), if_n (ne n hn), ok_s]
        exact Or.inl ⟨_, rfl, rfl⟩
      · intro s hs
        subst hs
        unfold st_L_atRank_2
        simp only [J_lit]
        rw [e3, if_n (fun q => by have := (J_le (by omega) (by omega)).mp q; omega), C_rank15 h.sim hw hk, if_p (by rw [ek]), ok_s]
        exact ⟨_, rfl, rfl⟩
    rw [ea, ob1_s, ok_ocR, ok_s, Sum.elim_inl, ok_bnd, ok_s]
    refine pr_ans h (fun hp => ?_)
    have m3 : (wr d 300 0 (J k)) 293 0 = J (g 0) := hp.1.at (by decide)
    unfold f_M_lanternByBrightness f_M_lanternByBrightness_2
    simp only [J_lit]
    refine iter_up 0 k (fun n s => s = J n) rfl (by omega) (by omega) ?_ ?_
    · intro n s hn hs
      subst hs
      unfold st_M_lanternByBrightness_2
      simp only [J_lit]
      rw [m3, if_n (fun q => by have := (J_le (by omega) (by omega)).mp q; omega), M_rank17 hp.1 hw (by omega), if_n (ne n hn), ok_s]
      exact Or.inl ⟨_, rfl, rfl⟩
    · intro s hs
      subst hs
      unfold st_M_lanternByBrightness_2
      simp only [J_lit]
      rw [m3, if_n (fun q => by have := (J_le (by omega) (by omega)).mp q; omega), M_rank17 hp.1 hw hk, if_p (by rw [ek]), ok_s]
      exact ⟨_, rfl, rfl, MO_code hp.1 hp.2.1 0⟩
  · rw [(C_has h.sim h8).2 q, ob1_s, if_p rfl, ok_ocR, ok_s, Sum.elim_inr]
    show ok (if (3 : Nat) = 3 then some (J 1, d) else none) _
    rw [if_p rfl, ok_s]
    refine pr_fail h (Nat.le_refl D) 1 (by decide) (by decide) (fun hp => ?_)
    have m3 : d 293 0 = J (g 0) := hp.1.at (by decide)
    unfold f_M_lanternByBrightness f_M_lanternByBrightness_2
    simp only [J_lit]
    refine iter_up 0 (g 0) (fun n s => s = J n) rfl (by omega) (by omega) ?_ ?_
    · intro n s hn hs
      subst hs
      unfold st_M_lanternByBrightness_2
      simp only [J_lit]
      rw [m3, if_n (fun q => by have := (J_le (by omega) (by omega)).mp q; omega), M_rank17 hp.1 hw hn, if_n (fun t => q ⟨_, rkn_lt hn, t.symm⟩), ok_s]
      exact Or.inl ⟨_, rfl, rfl⟩
    · intro s hs
      subst hs
      unfold st_M_lanternByBrightness_2
      simp only [J_lit]
      rw [m3, if_p ((J_le (by omega) (by omega)).mpr (Nat.le_refl _)), ok_ir, ok_bnd, ok_s]
      exact ⟨_, rfl, MO_code hp.1 hp.2.1 1⟩
theorem law_rank (h : St D d g us sv e f ln cs om os) (hi : i + 5 ≤ L) (hL : L ≤ 2560) : ok (f_W_law_2181 L xs (J i) d) (fun y => ∃ d', y = .inl (J i + 5, d') ∧ Inv D d') := by
  unfold f_W_law_2181
  simp only [gdx1 hi hL]
  exact tail_i (P := Inv D) (P_rank h)
end RANK
