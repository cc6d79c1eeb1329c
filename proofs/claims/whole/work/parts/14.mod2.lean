/-! 14: the reference's changes -/
def updG (g : Nat → Nat) (j v : Nat) : Nat → Nat := fun q => if q = j then v else g q
theorem updG_s {g : Nat → Nat} {j v : Nat} : updG g j v j = v := if_pos rfl
theorem updG_n {g : Nat → Nat} {j v q : Nat} (h : q ≠ j) : updG g j v q = g q := if_neg h
theorem row_upd {d : Dt} {g : Nat → Nat} {j v : Nat} (h : rowN d 293 0 g) : rowN (wr d 293 j (J v)) 293 0 (updG g j v) := by
  intro q hq
  rw [wr_i, Nat.zero_add]
  unfold updG
  by_cases e : q = j
  · rw [if_pos e, if_pos e]
  · rw [if_neg e, if_neg e]
    exact h.at hq
/-- a change of the reference: its stack, its row, its code; nothing else -/
def MO (d d' : Dt) (us' : List (Nat → Nat)) (g' : Nat → Nat) (c : Nat) : Prop :=
  KP d' us' ∧ rowN d' 293 0 g' ∧ d' 292 7 = J c ∧ (∀ k, k ≠ 292 → k ≠ 293 → k ≠ 294 → d' k = d k) ∧ ∀ j, j ≠ 5 → j ≠ 7 → d' 292 j = d 292 j
theorem MO_code {d : Dt} {us : List (Nat → Nat)} {g : Nat → Nat} (hr : rowN d 293 0 g) (hk : KP d us) (c : Nat) : MO d (wr d 292 7 (J c)) us g c :=
  ⟨⟨by rw [wr_j (by decide)]; exact hk.1, fun j hj => rowN_cong (hk.2 j hj) (wr_k (by decide))⟩, rowN_cong hr (wr_k (by decide)), wr_s, fun k h _ _ => wr_k h, fun j _ h => wr_j h⟩
theorem MO_keep {d d3 : Dt} {us : List (Nat → Nat)} {g : Nat → Nat} {v : Int32} (hr : rowN d 293 0 g) (h : KQ (wr d 292 7 v) us g d3) : MO d d3 (pushU us g) g 0 := by
  refine ⟨h.1, rowN_cong hr ?_, h.2.2.2, fun k h1 h2 h3 => ?_, fun j h5 h7 => ?_⟩
  · rw [h.2.1 293 (by decide) (by decide), wr_k (by decide)]
  · rw [h.2.1 k h1 h3, wr_k h1]
  · rw [h.2.2.1 j h5 h7, wr_j h7]
theorem MO_row {d d3 d4 : Dt} {us : List (Nat → Nat)} {g g' : Nat → Nat} {c : Nat} (h : MO d d3 us g c) (hq : ∀ k, k ≠ 293 → d4 k = d3 k) (hr : rowN d4 293 0 g') : MO d d4 us g' c := by
  refine ⟨⟨?_, fun j hj => rowN_cong (h.1.2 j hj) (hq _ (by decide))⟩, hr, ?_, fun k h1 h2 h3 => ?_, fun j h5 h7 => ?_⟩
  · rw [hq _ (by decide)]; exact h.1.1
  · rw [hq _ (by decide)]; exact h.2.2.1
  · rw [hq _ h2]; exact h.2.2.2.1 k h1 h2 h3
  · rw [hq _ (by decide)]; exact h.2.2.2.2 j h5 h7
theorem MO_upd {d d3 : Dt} {us : List (Nat → Nat)} {g : Nat → Nat} {c : Nat} (h : MO d d3 us g c) (j v : Nat) : MO d (wr d3 293 j (J v)) us (updG g j v) c :=
  MO_row h (fun k hk => wr_k hk) (row_upd h.2.1)
theorem MO.at {d d' : Dt} {us : List (Nat → Nat)} {g : Nat → Nat} {c : Nat} (h : MO d d' us g c) {j : Nat} (hj : j < 187) : d' 293 j = J (g j) := h.2.1.at hj
theorem J_ne {a b : Nat} (h : a ≠ b) (ha : a < 2147483648) (hb : b < 2147483648) : ¬ J a = J b := fun q => h ((J_inj ha hb).mp q)
theorem M_f0 {d : Dt} {K E : Dt → Option (Int32 × Dt)} {Q : Int32 × Dt → Prop} : ok (ob2 (f_M_fails (J 0) d) fun r d2 => if r = J 0 then K d2 else E d2) Q ↔ ok (K (wr d 292 7 (J 0))) Q := by
  rw [M_fails (by decide), ob2_s, if_p (show J (if (0 : Nat) = 0 then 0 else 1) = J 0 from rfl)]
theorem M_f1 {d : Dt} {c : Nat} {K E : Dt → Option (Int32 × Dt)} {Q : Int32 × Dt → Prop} (hc : c < 10) (h1 : 1 ≤ c) : ok (ob2 (f_M_fails (J c) d) fun r d2 => if r = J 0 then K d2 else E d2) Q ↔ ok (E (wr d 292 7 (J c))) Q := by
  rw [M_fails hc, ob2_s, if_neg (show ¬ c = 0 by omega), if_n (J_ne (by decide) (by decide) (by decide))]
theorem MO.kp {d d2 : Dt} {us : List (Nat → Nat)} {g : Nat → Nat} {c : Nat} (h : MO d d2 us g c) (hl : us.length ≤ 8) (hw : d 292 6 = J 0) : ok (f_M_keeps d2) (fun d3 => MO d d3 (pushU us g) g 0) := by
  refine ok_mono (M_keeps h.2.1 h.1 hl (by rw [h.2.2.2.2 6 (by decide) (by decide)]; exact hw)) (fun d3 h3 => ?_)
  refine ⟨h3.1, rowN_cong h.2.1 (h3.2.1 293 (by decide) (by decide)), h3.2.2.2, fun k h1 h2 h4 => ?_, fun j h5 h7 => ?_⟩
  · rw [h3.2.1 k h1 h4]; exact h.2.2.2.1 k h1 h2 h4
  · rw [h3.2.2.1 j h5 h7]; exact h.2.2.2.2 j h5 h7
theorem MO_eq {d d3 : Dt} {us : List (Nat → Nat)} {g g' : Nat → Nat} {c : Nat} (h : MO d d3 us g c) (e : ∀ q, q < 187 → g q = g' q) : MO d d3 us g' c :=
  MO_row h (fun _ _ => rfl) (fun q hq => by rw [h.2.1 q hq, e q hq])
/-- the present state of the reference -/
def MP (d : Dt) (us : List (Nat → Nat)) (g : Nat → Nat) : Prop := rowN d 293 0 g ∧ KP d us ∧ us.length ≤ 8 ∧ d 292 6 = J 0
def addG (g : Nat → Nat) : Nat → Nat := fun q => if q = 0 then g 0 + 1 else if 13 + 11 * g 0 ≤ q ∧ q < 24 + 11 * g 0 then (if q = 13 + 11 * g 0 then 9 else 0) else g q
theorem M_addLantern {d : Dt} {us : List (Nat → Nat)} {g : Nat → Nat} (hp : MP d us g) (h8 : g 0 ≤ 8) : (g 0 = 8 → ok (f_M_addLantern d) (fun z => MO d z.2 us g 1)) ∧ (g 0 < 8 → ok (f_M_addLantern d) (fun z => z.1 = J (g 0) ∧ MO d z.2 (pushU us g) (addG g) 0)) := by
  obtain ⟨hr, hk, hl, hw⟩ := hp
  unfold f_M_addLantern f_M_addLantern_17
  simp only [J_lit]
  rw [hr.at (by decide)]
  refine ⟨fun e => ?_, fun e => ?_⟩
  · rw [e, if_p rfl, M_f1 (by decide) (by decide), ok_s]
    exact MO_code hr hk 1
  · rw [if_n (J_ne (by omega) (by omega) (by omega)), M_f0, ok_ob1]
    refine ok_mono ((MO_code hr hk 0).kp hl hw) (fun d3 h3 => ?_)
    rw [ok_bnd, h3.at (by decide), J_add]
    have h4 := MO_upd h3 0 (g 0 + 1)
    generalize wr d3 293 0 (J (g 0 + 1)) = d4 at h4 ⊢
    unfold f_M_addLantern_52
    refine iter_up 0 11 (fun i s => ∃ d5, s = (J i, d5) ∧ MO d d5 (pushU us g) (fun q => if 13 + 11 * g 0 ≤ q ∧ q < 13 + 11 * g 0 + i then 0 else updG g 0 (g 0 + 1) q) 0) ⟨d4, rfl, ?_⟩ (by decide) (by decide) ?_ ?_
    · refine MO_eq h4 (fun q hq => ?_)
      rw [if_neg (by omega)]
    · intro i s hi hs
      obtain ⟨d5, rfl, h5⟩ := hs
      show ok (st_M_addLantern_52 (J (g 0)) (J i) d5) _
      unfold st_M_addLantern_52
      simp (disch := omega) only [ite_true, ite_false, J_lit, J_add, J_mul, J_nat, J_inb, J_le, J_lt, J_inj, J_sub, J_div, gd_d, if_p, if_n, ob1_s, ob2_s, ir_s, ok_bnd, M_lays, ok_s]
      refine Or.inl ⟨_, rfl, _, rfl, MO_eq (MO_upd h5 (13 + 11 * g 0 + i) 0) (fun q hq => ?_)⟩
      unfold updG
      dsimp only
      repeat' split
      all_goals omega
    · intro s hs
      obtain ⟨d5, rfl, h5⟩ := hs
      show ok (st_M_addLantern_52 (J (g 0)) (J 11) d5) _
      unfold st_M_addLantern_52
      simp (disch := omega) only [ite_true, ite_false, J_lit, J_add, J_mul, J_nat, J_inb, J_le, J_lt, J_inj, J_sub, J_div, gd_d, if_p, if_n, ob1_s, ob2_s, ir_s, ok_bnd, M_lays, ok_s, ok_ir]
      refine ⟨_, rfl, rfl, MO_eq (MO_upd h5 (13 + 11 * g 0 + 0) 9) (fun q hq => ?_)⟩
      unfold updG addG
      dsimp only
      repeat' split
      all_goals omega
def admG (g : Nat → Nat) (i v : Nat) : Nat → Nat := updG g (14 + 11 * i) v
theorem M_retract {d : Dt} {us : List (Nat → Nat)} {g : Nat → Nat} {x : Int32} (hp : MP d us g) (h8 : g 0 ≤ 8) (hA : ∀ i, i < g 0 → g (14 + 11 * i) ≤ 2) : (¬ isIn (g 0) x → ok (f_M_retract x d) (fun z => MO d z.2 us g 1)) ∧ ∀ i, i < g 0 → x = J i → (g (14 + 11 * i) = 0 → ok (f_M_retract x d) (fun z => MO d z.2 us g 2)) ∧ (g (14 + 11 * i) ≠ 0 → ok (f_M_retract x d) (fun z => z.1 = J (if g (14 + 11 * i) = 1 then 1 else 0) ∧ MO d z.2 (pushU us g) (admG g i 0) 0)) := by
  obtain ⟨hr, hk, hl, hw⟩ := hp
  unfold f_M_retract f_M_retract_27
  simp only [J_lit]
  refine ⟨fun q => ?_, fun i hi q => ?_⟩
  · rw [(M_isLantern hr h8).2 q, ob1_s, if_p rfl, M_f1 (by decide) (by decide), ok_s]
    exact MO_code hr hk 1
  · rw [(M_isLantern hr h8).1 ⟨i, hi, q⟩, ob1_s, if_n (J_ne (by decide) (by decide) (by decide)), q]
    have hg := hA i hi
    rw [M_of (by omega) (by omega), ob1_s, hr.at (by omega), show 13 + 11 * i + 1 = 14 + 11 * i by omega]
    refine ⟨fun h0 => ?_, fun h0 => ?_⟩
    · rw [h0, if_p rfl, M_f1 (by decide) (by decide), ok_s]
      exact MO_code hr hk 2
    · rw [if_n (J_ne h0 (by omega) (by decide)), M_f0, M_of (by omega) (by omega), ob1_s, ok_ob1]
      refine ok_mono ((MO_code hr hk 0).kp hl hw) (fun d3 h3 => ?_)
      rw [M_lays (by omega) (by omega), ob1_s, wr_k (by decide), hr.at (by omega), show 13 + 11 * i + 1 = 14 + 11 * i by omega]
      have h4 := MO_upd h3 (14 + 11 * i) 0
      by_cases h1 : g (14 + 11 * i) = 1
      · rw [h1, if_p rfl, ok_s, if_p rfl]
        exact ⟨rfl, h4⟩
      · rw [if_n (J_ne h1 (by omega) (by decide)), ok_s, if_n h1]
        exact ⟨rfl, h4⟩
