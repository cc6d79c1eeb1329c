/-! 14: the reference's changes -/
def updG (g : Nat → Nat) (j v : Nat) : Nat → Nat := fun q => if q = j then v else g q
theorem updG_s {g : Nat → Nat} {j v : Nat} : updG g j v j = v := if_pos rfl
theorem updG_n {g : Nat → Nat} {j v q : Nat} (h : q ≠ j) : updG g j v q = g q := if_neg h
theorem row_upd {d : Dt} {g : Nat → Nat} {j v : Nat} (h : rowN d 293 0 g) : rowN (wr d 293 j (J v)) 293 0 (updG g j v) := by
  intro q hq
  rw [wr_i, Nat.zero_add]
  unfold updG
  by_cases e : q = j
  · rw [if_pos e, if_pos e]
  · rw [if_neg e, if_neg e]
    exact h.at hq
/-- a change of the reference: its stack, its row, its code; nothing else -/
def MO (d d' : Dt) (us' : List (Nat → Nat)) (g' : Nat → Nat) (c : Nat) : Prop :=
  KP d' us' ∧ rowN d' 293 0 g' ∧ d' 292 7 = J c ∧ (∀ k, k ≠ 292 → k ≠ 293 → k ≠ 294 → d' k = d k) ∧ ∀ j, j ≠ 5 → j ≠ 7 → d' 292 j = d 292 j
theorem MO_code {d : Dt} {us : List (Nat → Nat)} {g : Nat → Nat} (hr : rowN d 293 0 g) (hk : KP d us) (c : Nat) : MO d (wr d 292 7 (J c)) us g c :=
  ⟨⟨by rw [wr_j (by decide)]; exact hk.1, fun j hj => rowN_cong (hk.2 j hj) (wr_k (by decide))⟩, rowN_cong hr (wr_k (by decide)), wr_s, fun k h _ _ => wr_k h, fun j _ h => wr_j h⟩
theorem MO_keep {d d3 : Dt} {us : List (Nat → Nat)} {g : Nat → Nat} {v : Int32} (hr : rowN d 293 0 g) (h : KQ (wr d 292 7 v) us g d3) : MO d d3 (pushU us g) g 0 := by
  refine ⟨h.1, rowN_cong hr ?_, h.2.2.2, fun k h1 h2 h3 => ?_, fun j h5 h7 => ?_⟩
  · rw [h.2.1 293 (by decide) (by decide), wr_k (by decide)]
  · rw [h.2.1 k h1 h3, wr_k h1]
  · rw [h.2.2.1 j h5 h7, wr_j h7]
theorem MO_row {d d3 d4 : Dt} {us : List (Nat → Nat)} {g g' : Nat → Nat} {c : Nat} (h : MO d d3 us g c) (hq : ∀ k, k ≠ 293 → d4 k = d3 k) (hr : rowN d4 293 0 g') : MO d d4 us g' c := by
  refine ⟨⟨?_, fun j hj => rowN_cong (h.1.2 j hj) (hq _ (by decide))⟩, hr, ?_, fun k h1 h2 h3 => ?_, fun j h5 h7 => ?_⟩
  · rw [hq _ (by decide)]; exact h.1.1
  · rw [hq _ (by decide)]; exact h.2.2.1
  · rw [hq _ h2]; exact h.2.2.2.1 k h1 h2 h3
  · rw [hq _ (by decide)]; exact h.2.2.2.2 j h5 h7
theorem MO_upd {d d3 : Dt} {us : List (Nat → Nat)} {g : Nat → Nat} {c : Nat} (h : MO d d3 us g c) (j v : Nat) : MO d (wr d3 293 j (J v)) us (updG g j v) c :=
  MO_row h (fun k hk => wr_k hk) (row_upd h.2.1)
theorem MO.at {d d' : Dt} {us : List (Nat → Nat)} {g : Nat → Nat} {c : Nat} (h : MO d d' us g c) {j : Nat} (hj : j < 187) : d' 293 j = J (g j) := h.2.1.at hj
theorem J_ne {a b : Nat} (h : a ≠ b) (ha : a < 2147483648) (hb : b < 2147483648) : ¬ J a = J b := fun q => h ((J_inj ha hb).mp q)
theorem M_f0 {d : Dt} {K E : Dt → Option (Int32 × Dt)} {Q : Int32 × Dt → Prop} : ok (ob2 (f_M_fails (J 0) d) fun r d2 => if r = J 0 then K d2 else E d2) Q ↔ ok (K (wr d 292 7 (J 0))) Q := by
  rw [M_fails (by decide), ob2_s, if_p (show J (if (0 : Nat) = 0 then 0 else 1) = J 0 from rfl)]
theorem M_f1 {d : Dt} {c : Nat} {K E : Dt → Option (Int32 × Dt)} {Q : Int32 × Dt → Prop} (hc : c < 10) (h1 : 1 ≤ c) : ok (ob2 (f_M_fails (J c) d) fun r d2 => if r = J 0 then K d2 else E d2) Q ↔ ok (E (wr d 292 7 (J c))) Q := by
  rw [M_fails hc, ob2_s, if_neg (show ¬ c = 0 by omega), if_n (J_ne (by decide) (by decide) (by decide))]
/-- within a text the stack is left as it is -/
def pw (b : Bool) (us : List (Nat → Nat)) (g : Nat → Nat) : List (Nat → Nat) := if b = true then us else pushU us g
def bn (b : Bool) : Nat := if b = true then 1 else 0
theorem M_keeps_w {d : Dt} (hw : d 292 6 = J 1) : f_M_keeps d = some (wr d 292 7 (J 0)) := by
  unfold f_M_keeps bnd
  dsimp only
  rw [wr_j (by decide), hw, if_n (show ¬ J 1 = 0 from fun h => by cases h)]
  rfl
theorem MO.kp {d d2 : Dt} {us : List (Nat → Nat)} {g : Nat → Nat} {c : Nat} {b : Bool} (h : MO d d2 us g c) (hl : us.length ≤ 8) (hw : d 292 6 = J (bn b)) : ok (f_M_keeps d2) (fun d3 => MO d d3 (pw b us g) g 0) := by
  have hw2 : d2 292 6 = J (bn b) := by rw [h.2.2.2.2 6 (by decide) (by decide)]; exact hw
  cases b with
  | true =>
    rw [M_keeps_w hw2, ok_s]
    refine ⟨⟨by rw [wr_j (by decide)]; exact h.1.1, fun j hj => rowN_cong (h.1.2 j hj) (wr_k (by decide))⟩, rowN_cong h.2.1 (wr_k (by decide)), wr_s, fun k h1 h2 h3 => ?_, fun j h5 h7 => ?_⟩
    · rw [wr_k h1]; exact h.2.2.2.1 k h1 h2 h3
    · rw [wr_j h7]; exact h.2.2.2.2 j h5 h7
  | false =>
    refine ok_mono (M_keeps h.2.1 h.1 hl hw2) (fun d3 h3 => ?_)
    refine ⟨h3.1, rowN_cong h.2.1 (h3.2.1 293 (by decide) (by decide)), h3.2.2.2, fun k h1 h2 h4 => ?_, fun j h5 h7 => ?_⟩
    · rw [h3.2.1 k h1 h4]; exact h.2.2.2.1 k h1 h2 h4
    · rw [h3.2.2.1 j h5 h7]; exact h.2.2.2.2 j h5 h7
theorem MO_eq {d d3 : Dt} {us : List (Nat → Nat)} {g g' : Nat → Nat} {c : Nat} (h : MO d d3 us g c) (e : ∀ q, q < 187 → g q = g' q) : MO d d3 us g' c :=
  MO_row h (fun _ _ => rfl) (fun q hq => by rw [h.2.1 q hq, e q hq])
/-- the present state of the reference -/
def MP (d : Dt) (us : List (Nat → Nat)) (g : Nat → Nat) (b : Bool) : Prop := rowN d 293 0 g ∧ KP d us ∧ us.length ≤ 8 ∧ d 292 6 = J (bn b)
def addG (g : Nat → Nat) : Nat → Nat := fun q => if q = 0 then g 0 + 1 else if 13 + 11 * g 0 ≤ q ∧ q < 24 + 11 * g 0 then (if q = 13 + 11 * g 0 then 9 else 0) else g q
theorem M_addLantern {d : Dt} {us : List (Nat → Nat)} {g : Nat → Nat} {b : Bool} (hp : MP d us g b) (h8 : g 0 ≤ 8) : (g 0 = 8 → ok (f_M_addLantern d) (fun z => MO d z.2 us g 1)) ∧ (g 0 < 8 → ok (f_M_addLantern d) (fun z => z.1 = J (g 0) ∧ MO d z.2 (pw b us g) (addG g) 0)) := by
  obtain ⟨hr, hk, hl, hw⟩ := hp
  unfold f_M_addLantern f_M_addLantern_17
  simp only [J_lit]
  rw [hr.at (by decide)]
  refine ⟨fun e => ?_, fun e => ?_⟩
  · rw [e, if_p rfl, M_f1 (by decide) (by decide), ok_s]
    exact MO_code hr hk 1
  · rw [if_n (J_ne (by omega) (by omega) (by omega)), M_f0, ok_ob1]
    refine ok_mono ((MO_code hr hk 0).kp hl hw) (fun d3 h3 => ?_)
    rw [ok_bnd, h3.at (by decide), J_add]
    have h4 := MO_upd h3 0 (g 0 + 1)
    generalize wr d3 293 0 (J (g 0 + 1)) = d4 at h4 ⊢
    unfold f_M_addLantern_52
    refine iter_up 0 11 (fun i s => ∃ d5, s = (J i, d5) ∧ MO d d5 (pw b us g) (fun q => if 13 + 11 * g 0 ≤ q ∧ q < 13 + 11 * g 0 + i then 0 else updG g 0 (g 0 + 1) q) 0) ⟨d4, rfl, ?_⟩ (by decide) (by decide) ?_ ?_
    · refine MO_eq h4 (fun q hq => ?_)
      rw [if_neg (by omega)]
    · intro i s hi hs
      obtain ⟨d5, rfl, h5⟩ := hs
      show ok (st_M_addLantern_52 (J (g 0)) (J i) d5) _
      unfold st_M_addLantern_52
      simp (disch := omega) only [ite_true, ite_false, J_lit, J_add, J_mul, J_nat, J_inb, J_le, J_lt, J_inj, J_sub, J_div, gd_d, if_p, if_n, ob1_s, ob2_s, ir_s, M_lays, ok_s]
      refine Or.inl ⟨_, rfl, _, rfl, MO_eq (MO_upd h5 (13 + 11 * g 0 + i) 0) (fun q hq => ?_)⟩
      unfold updG
      dsimp only
      repeat' split
      all_goals omega
    · intro s hs
      obtain ⟨d5, rfl, h5⟩ := hs
      show ok (st_M_addLantern_52 (J (g 0)) (J 11) d5) _
      unfold st_M_addLantern_52
      simp (disch := omega) only [ite_true, ite_false, J_lit, J_add, J_mul, J_nat, J_inb, J_le, J_lt, J_inj, J_sub, J_div, gd_d, if_p, if_n, ob1_s, ob2_s, ir_s, M_lays, ok_s, ok_ir]
      refine ⟨_, rfl, rfl, MO_eq (MO_upd h5 (13 + 11 * g 0 + 0) 9) (fun q hq => ?_)⟩
      unfold updG addG
      dsimp only
      repeat' split
      all_goals omega
def admG (g : Nat → Nat) (i v : Nat) : Nat → Nat := updG g (14 + 11 * i) v
theorem M_retract {d : Dt} {us : List (Nat → Nat)} {g : Nat → Nat} {b : Bool} {x : Int32} (hp : MP d us g b) (h8 : g 0 ≤ 8) (hA : ∀ i, i < g 0 → g (14 + 11 * i) ≤ 2) : (¬ isIn (g 0) x → ok (f_M_retract x d) (fun z => MO d z.2 us g 1)) ∧ ∀ i, i < g 0 → x = J i → (g (14 + 11 * i) = 0 → ok (f_M_retract x d) (fun z => MO d z.2 us g 2)) ∧ (g (14 + 11 * i) ≠ 0 → ok (f_M_retract x d) (fun z => z.1 = J (if g (14 + 11 * i) = 1 then 1 else 0) ∧ MO d z.2 (pw b us g) (admG g i 0) 0)) := by
  obtain ⟨hr, hk, hl, hw⟩ := hp
  unfold f_M_retract f_M_retract_27
  simp only [J_lit]
  refine ⟨fun q => ?_, fun i hi q => ?_⟩
  · rw [(M_isLantern hr h8).2 q, ob1_s, if_p rfl, M_f1 (by decide) (by decide), ok_s]
    exact MO_code hr hk 1
  · rw [(M_isLantern hr h8).1 ⟨i, hi, q⟩, ob1_s, if_n (J_ne (by decide) (by decide) (by decide)), q]
    have hg := hA i hi
    rw [M_of (by omega) (by omega), ob1_s, hr.at (by omega), show 13 + 11 * i + 1 = 14 + 11 * i by omega]
    refine ⟨fun h0 => ?_, fun h0 => ?_⟩
    · rw [h0, if_p rfl, M_f1 (by decide) (by decide), ok_s]
      exact MO_code hr hk 2
    · rw [if_n (J_ne h0 (by omega) (by decide)), M_f0, M_of (by omega) (by omega), ob1_s, ok_ob1]
      refine ok_mono ((MO_code hr hk 0).kp hl hw) (fun d3 h3 => ?_)
      rw [M_lays (by omega) (by omega), ob1_s, wr_k (by decide), hr.at (by omega), show 13 + 11 * i + 1 = 14 + 11 * i by omega]
      have h4 := MO_upd h3 (14 + 11 * i) 0
      by_cases h1 : g (14 + 11 * i) = 1
      · rw [h1, if_p rfl, ok_s, if_p rfl]
        exact ⟨rfl, h4⟩
      · rw [if_n (J_ne h1 (by omega) (by decide)), ok_s, if_n h1]
        exact ⟨rfl, h4⟩
theorem M_admit {d : Dt} {us : List (Nat → Nat)} {g : Nat → Nat} {b : Bool} {x y : Int32} (hp : MP d us g b) (h8 : g 0 ≤ 8) (hA : ∀ i, i < g 0 → g (14 + 11 * i) ≤ 2) : (¬ isIn (g 0) x → ok (f_M_admit x y d) (fun z => MO d z.2 us g 1)) ∧ ∀ i, i < g 0 → x = J i → (g (14 + 11 * i) = (if y = 0 then 2 else 1) → ok (f_M_admit x y d) (fun z => MO d z.2 us g 2)) ∧ (g (14 + 11 * i) ≠ (if y = 0 then 2 else 1) → ok (f_M_admit x y d) (fun z => z.1 = J (if g (14 + 11 * i) = 0 then 0 else 1) ∧ MO d z.2 (pw b us g) (admG g i (if y = 0 then 2 else 1)) 0)) := by
  obtain ⟨hr, hk, hl, hw⟩ := hp
  have key : ∀ v : Nat, 1 ≤ v → v ≤ 2 → (¬ isIn (g 0) x → ok (f_M_admit_9 x (J v) d) (fun z => MO d z.2 us g 1)) ∧ ∀ i, i < g 0 → x = J i → (g (14 + 11 * i) = v → ok (f_M_admit_9 x (J v) d) (fun z => MO d z.2 us g 2)) ∧ (g (14 + 11 * i) ≠ v → ok (f_M_admit_9 x (J v) d) (fun z => z.1 = J (if g (14 + 11 * i) = 0 then 0 else 1) ∧ MO d z.2 (pw b us g) (admG g i v) 0)) := by
    intro v hv1 hv2
    unfold f_M_admit_9 f_M_admit_38
    simp only [J_lit]
    refine ⟨fun q => ?_, fun i hi q => ?_⟩
    · rw [(M_isLantern hr h8).2 q, ob1_s, if_p rfl, M_f1 (by decide) (by decide), ok_s]
      exact MO_code hr hk 1
    · rw [(M_isLantern hr h8).1 ⟨i, hi, q⟩, ob1_s, if_n (J_ne (by decide) (by decide) (by decide)), q]
      have hg := hA i hi
      rw [M_of (by omega) (by omega), ob1_s, hr.at (by omega), show 13 + 11 * i + 1 = 14 + 11 * i by omega]
      refine ⟨fun h0 => ?_, fun h0 => ?_⟩
      · rw [h0, if_p rfl, M_f1 (by decide) (by decide), ok_s]
        exact MO_code hr hk 2
      · rw [if_n (J_ne h0 (by omega) (by omega)), M_f0, M_of (by omega) (by omega), ob1_s, ok_ob1]
        refine ok_mono ((MO_code hr hk 0).kp hl hw) (fun d3 h3 => ?_)
        rw [M_lays (by omega) (by omega), ob1_s, wr_k (by decide), hr.at (by omega), show 13 + 11 * i + 1 = 14 + 11 * i by omega]
        have h4 := MO_upd h3 (14 + 11 * i) v
        by_cases h1 : g (14 + 11 * i) = 0
        · rw [h1, if_p (show J 0 ≤ J 0 by decide), ok_s, if_p rfl]
          exact ⟨rfl, h4⟩
        · rw [if_n (show ¬ J (g (14 + 11 * i)) ≤ J 0 from fun q => by have := (J_le (by omega) (by omega)).mp q; omega), ok_s, if_n h1]
          exact ⟨rfl, h4⟩
  unfold f_M_admit
  by_cases hy : y = 0
  · rw [if_p hy, if_p hy]
    exact key 2 (by decide) (by decide)
  · rw [if_n hy, if_n hy]
    exact key 1 (by decide) (by decide)
def stG (g : Nat → Nat) (x y t : Nat) : Nat → Nat := updG (updG (updG (updG g (151 + 3 * g 4 + 0) x) (151 + 3 * g 4 + 1) y) (151 + 3 * g 4 + 2) t) 4 (g 4 + 1)
theorem M_makeStatement {d : Dt} {us : List (Nat → Nat)} {g : Nat → Nat} {b : Bool} {x y t : Int32} (hp : MP d us g b) (h8 : g 0 ≤ 8) (h12 : g 4 ≤ 12) : (¬ (isIn (g 0) x ∧ isIn (g 0) y) → ok (f_M_makeStatement x y t d) (fun z => MO d z.2 us g 1)) ∧ ∀ i j, i < g 0 → j < g 0 → x = J i → y = J j → (i = j → ok (f_M_makeStatement x y t d) (fun z => MO d z.2 us g 2)) ∧ (i ≠ j → g 4 = 12 → ok (f_M_makeStatement x y t d) (fun z => MO d z.2 us g 3)) ∧ (i ≠ j → g 4 < 12 → ok (f_M_makeStatement x y t d) (fun z => z.1 = J (g 4) ∧ MO d z.2 (pw b us g) (stG g i j (if t = 0 then 0 else 1)) 0)) := by
  obtain ⟨hr, hk, hl, hw⟩ := hp
  unfold f_M_makeStatement f_M_makeStatement_17 f_M_makeStatement_46 f_M_makeStatement_113
  simp only [J_lit]
  refine ⟨fun q => ?_, fun i j hi hj qi qj => ?_⟩
  · by_cases q1 : isIn (g 0) x
    · rw [(M_isLantern hr h8).1 q1, ob1_s, if_n (J_ne (by decide) (by decide) (by decide)), (M_isLantern hr h8).2 (fun q2 => q ⟨q1, q2⟩), ob1_s, if_p rfl, M_f1 (by decide) (by decide), ok_s]
      exact MO_code hr hk 1
    · rw [(M_isLantern hr h8).2 q1, ob1_s, if_p rfl, M_f1 (by decide) (by decide), ok_s]
      exact MO_code hr hk 1
  · rw [(M_isLantern hr h8).1 ⟨i, hi, qi⟩, ob1_s, if_n (J_ne (by decide) (by decide) (by decide)), (M_isLantern hr h8).1 ⟨j, hj, qj⟩, ob1_s, if_n (J_ne (by decide) (by decide) (by decide)), qi, qj, hr.at (j := 4) (by decide)]
    refine ⟨fun h => ?_, fun h h4 => ?_, fun h h4 => ?_⟩
    · rw [h, if_p rfl, M_f1 (by decide) (by decide), ok_s]
      exact MO_code hr hk 2
    · rw [if_n (J_ne h (by omega) (by omega)), h4, if_p rfl, M_f1 (by decide) (by decide), ok_s]
      exact MO_code hr hk 3
    · rw [if_n (J_ne h (by omega) (by omega)), if_n (J_ne (by omega) (by omega) (by omega)), M_f0, ok_ob1]
      refine ok_mono ((MO_code hr hk 0).kp hl hw) (fun d3 h3 => ?_)
      have e4 := h3.at (j := 4) (by decide)
      simp (disch := omega) only [ite_true, ite_false, J_lit, J_add, J_mul, J_nat, J_inb, J_le, J_lt, J_inj, J_sub, J_div, gd_d, if_p, if_n, ob1_s, ob2_s, ir_s, e4]
      (rw [ok_bnd]; have h5 := MO_upd h3 (151 + 3 * g 4 + 0) (i); generalize wr d3 293 (151 + 3 * g 4 + 0) (J (i)) = d5 at h5 ⊢)
      (rw [ok_bnd]; have h6 := MO_upd h5 (151 + 3 * g 4 + 1) (j); generalize wr d5 293 (151 + 3 * g 4 + 1) (J (j)) = d6 at h6 ⊢)
      have fin : ∀ v, v ≤ 1 → ok (bnd (wr d6 293 (151 + 3 * g 4 + 2) (J v)) fun d1 => bnd (wr d1 293 4 (d1 293 4 + J 1)) fun d2 => some (d2 293 4 - J 1, d2)) (fun z => z.1 = J (g 4) ∧ MO d z.2 (pw b us g) (stG g i j v) 0) := by
        intro v hv
        (rw [ok_bnd]; have h7 := MO_upd h6 (151 + 3 * g 4 + 2) (v); generalize wr d6 293 (151 + 3 * g 4 + 2) (J (v)) = d7 at h7 ⊢)
        have e7 : d7 293 4 = J (g 4) := by rw [h7.at (by decide), updG_n (by omega), updG_n (by omega), updG_n (by omega)]
        rw [e7, J_add]
        (rw [ok_bnd]; have h8 := MO_upd h7 (4) (g 4 + 1); generalize wr d7 293 (4) (J (g 4 + 1)) = d8 at h8 ⊢)
        rw [ok_s, h8.at (by decide), updG_s, J_sub (by omega)]
        exact ⟨rfl, h8⟩
      by_cases ht : t = J 0
      · simp (disch := omega) only [ite_true, ite_false, J_lit, J_add, J_mul, J_nat, J_inb, J_le, J_lt, J_inj, J_sub, J_div, gd_d, if_p, if_n, ob1_s, ob2_s, ir_s, ht]
        exact fin 0 (by decide)
      · rw [if_n ht]
        simp only [if_n ht]
        exact fin 1 (by decide)
def fileG (g : Nat → Nat) (x n f s : Nat) : Nat → Nat := updG (updG (updG (updG (updG (updG (updG (updG g (101 + 5 * g 3 + 0) (g 2)) (101 + 5 * g 3 + 1) x) (101 + 5 * g 3 + 2) (g 1 + n)) (101 + 5 * g 3 + 3) f) (101 + 5 * g 3 + 4) s) 3 (g 3 + 1)) 2 (g 2 + 1)) 6 (g 6 + f)
theorem M_in_g {x : Int32} {a n : Nat} {d : Dt} (ha : a < 2147483648) (hn : n < 2147483648) : ((∃ k, a ≤ k ∧ k ≤ n ∧ x = J k) → f_M_in x (J a) (J n) d = some (J 1)) ∧ (¬ (∃ k, a ≤ k ∧ k ≤ n ∧ x = J k) → f_M_in x (J a) (J n) d = some (J 0)) := by
  rcases J_cases x with hx | ⟨k, hk, rfl⟩
  · refine ⟨fun ⟨k, h1, h2, h3⟩ => ?_, fun _ => ?_⟩
    · rw [h3] at hx
      exact absurd hx (J_neg (by omega))
    · unfold f_M_in
      have h : x < J a := by
        rw [Int32.lt_iff_toInt_lt, J_toInt ha]
        have := Int32.lt_iff_toInt_lt.mp hx
        have h0 : (0 : Int32).toInt = 0 := by decide
        omega
      rw [if_p h]
      rfl
  · rw [M_in hk ha hn]
    refine ⟨fun ⟨k', h1, h2, h3⟩ => ?_, fun h => ?_⟩
    · have h4 := (J_inj hk (by omega)).mp h3
      rw [if_pos (by omega)]
    · rw [if_neg (fun q => h ⟨k, q.1, q.2, rfl⟩)]
theorem M_file {d : Dt} {us : List (Nat → Nat)} {g : Nat → Nat} {b : Bool} {x n f s : Int32} (hp : MP d us g b) (h8 : g 0 ≤ 8) (h10 : g 3 ≤ 10) : (¬ isIn (g 0) x → ok (f_M_file x n f s d) (fun z => MO d z.2 us g 1)) ∧ (isIn (g 0) x → ¬ ((∃ k, 1 ≤ k ∧ k ≤ 12 ∧ n = J k) ∧ (∃ k, 1 ≤ k ∧ k ≤ 50 ∧ f = J k) ∧ ∃ k, 1 ≤ k ∧ k ≤ 9 ∧ s = J k) → ok (f_M_file x n f s d) (fun z => MO d z.2 us g 2)) ∧ ∀ i n' f' s', i < g 0 → x = J i → 1 ≤ n' → n' ≤ 12 → n = J n' → 1 ≤ f' → f' ≤ 50 → f = J f' → 1 ≤ s' → s' ≤ 9 → s = J s' → (g 3 = 10 → ok (f_M_file x n f s d) (fun z => MO d z.2 us g 3)) ∧ (g 3 < 10 → ok (f_M_file x n f s d) (fun z => z.1 = J (g 2) ∧ MO d z.2 (pw b us g) (fileG g i n' f' s') 0)) := by
  obtain ⟨hr, hk, hl, hw⟩ := hp
  have n1 : ¬ J 1 = J 0 := J_ne (by decide) (by decide) (by decide)
  unfold f_M_file f_M_file_44 f_M_file_64
  simp only [J_lit]
  refine ⟨fun q => ?_, fun q1 q => ?_, fun i n' f' s' hi qi a1 a2 qn b1 b2 qf c1 c2 qs => ?_⟩
  · rw [(M_isLantern hr h8).2 q, ob1_s, if_p rfl, M_f1 (by decide) (by decide), ok_s]
    exact MO_code hr hk 1
  · have fin : ok (ob2 (f_M_fails (J 2) d) fun r3 d4 => if r3 = J 0 then (fun d4 => none) d4 else some (J 0, d4)) (fun z => MO d z.2 us g 2) := by
      rw [M_f1 (by decide) (by decide), ok_s]
      exact MO_code hr hk 2
    rw [(M_isLantern hr h8).1 q1, ob1_s, if_n n1]
    by_cases qa : ∃ k, 1 ≤ k ∧ k ≤ 12 ∧ n = J k
    · rw [(M_in_g (by decide) (by decide)).1 qa, ob1_s, if_n n1]
      by_cases qb : ∃ k, 1 ≤ k ∧ k ≤ 50 ∧ f = J k
      · rw [(M_in_g (by decide) (by decide)).1 qb, ob1_s, if_n n1]
        rw [(M_in_g (by decide) (by decide)).2 (fun qc => q ⟨qa, qb, qc⟩), ob1_s, if_p rfl, M_f1 (by decide) (by decide), ok_s]
        exact MO_code hr hk 2
      · rw [(M_in_g (by decide) (by decide)).2 qb, ob1_s, if_p rfl, M_f1 (by decide) (by decide), ok_s]
        exact MO_code hr hk 2
    · rw [(M_in_g (by decide) (by decide)).2 qa, ob1_s, if_p rfl, M_f1 (by decide) (by decide), ok_s]
      exact MO_code hr hk 2
  · rw [(M_isLantern hr h8).1 ⟨i, hi, qi⟩, ob1_s, if_n n1, (M_in_g (by decide) (by decide)).1 ⟨n', a1, a2, qn⟩, ob1_s, if_n n1, (M_in_g (by decide) (by decide)).1 ⟨f', b1, b2, qf⟩, ob1_s, if_n n1, (M_in_g (by decide) (by decide)).1 ⟨s', c1, c2, qs⟩, ob1_s, if_n n1, qi, qn, qf, qs, hr.at (j := 3) (by decide)]
    refine ⟨fun h => ?_, fun h => ?_⟩
    · rw [h, if_p rfl, M_f1 (by decide) (by decide), ok_s]
      exact MO_code hr hk 3
    · rw [if_n (J_ne (by omega) (by omega) (by omega)), M_f0, ok_ob1]
      refine ok_mono ((MO_code hr hk 0).kp hl hw) (fun d3 h3 => ?_)
      have e3 := h3.at (j := 3) (by decide)
      have e2 := h3.at (j := 2) (by decide)
      simp (disch := omega) only [ite_true, ite_false, J_lit, J_add, J_mul, J_nat, J_inb, J_le, J_lt, J_inj, J_sub, J_div, gd_d, if_p, if_n, ob1_s, ob2_s, ir_s, e3, e2]
      (rw [ok_bnd]; have k5 := MO_upd h3 (101 + 5 * g 3 + 0) (g 2); generalize wr d3 293 (101 + 5 * g 3 + 0) (J (g 2)) = d5 at k5 ⊢)
      (rw [ok_bnd]; have k6 := MO_upd k5 (101 + 5 * g 3 + 1) (i); generalize wr d5 293 (101 + 5 * g 3 + 1) (J (i)) = d6 at k6 ⊢)
      rw [k6.at (j := 1) (by decide), updG_n (by omega), updG_n (by omega), J_add]
      (rw [ok_bnd]; have k7 := MO_upd k6 (101 + 5 * g 3 + 2) (g 1 + n'); generalize wr d6 293 (101 + 5 * g 3 + 2) (J (g 1 + n')) = d7 at k7 ⊢)
      (rw [ok_bnd]; have k8 := MO_upd k7 (101 + 5 * g 3 + 3) (f'); generalize wr d7 293 (101 + 5 * g 3 + 3) (J (f')) = d8 at k8 ⊢)
      (rw [ok_bnd]; have k9 := MO_upd k8 (101 + 5 * g 3 + 4) (s'); generalize wr d8 293 (101 + 5 * g 3 + 4) (J (s')) = d9 at k9 ⊢)
      rw [k9.at (j := 3) (by decide), updG_n (by omega), updG_n (by omega), updG_n (by omega), updG_n (by omega), updG_n (by omega), J_add]
      (rw [ok_bnd]; have ka := MO_upd k9 (3) (g 3 + 1); generalize wr d9 293 (3) (J (g 3 + 1)) = da at ka ⊢)
      rw [ka.at (j := 2) (by decide), updG_n (by omega), updG_n (by omega), updG_n (by omega), updG_n (by omega), updG_n (by omega), updG_n (by omega), J_add]
      (rw [ok_bnd]; have kb := MO_upd ka (2) (g 2 + 1); generalize wr da 293 (2) (J (g 2 + 1)) = db at kb ⊢)
      rw [kb.at (j := 6) (by decide), updG_n (by omega), updG_n (by omega), updG_n (by omega), updG_n (by omega), updG_n (by omega), updG_n (by omega), updG_n (by omega), J_add]
      (rw [ok_bnd]; have kc := MO_upd kb (6) (g 6 + f'); generalize wr db 293 (6) (J (g 6 + f')) = dc at kc ⊢)
      rw [ok_s, kc.at (j := 2) (by decide), updG_n (by omega), updG_s, J_sub (by omega)]
      exact ⟨rfl, kc⟩
