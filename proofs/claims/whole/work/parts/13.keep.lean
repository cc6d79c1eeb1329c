/-! 13: copies of rows, the reference's undo stack -/
theorem J_0 : (0 : Int32) = J 0 := Eq.trans (b := J 0) rfl rfl
theorem copy_gen {step : Int32 × Dt → Option ((Int32 × Dt) ⊕ Dt)} (sc dc b b' : Nat) (hne : sc ≠ dc) (hstep : ∀ j d, j < 187 → step (J j, d) = some (.inl (J (j + 1), wr d dc (b' + j) (d sc (b + j))))) (hend : ∀ d, step (J 187, d) = some (.inr d)) (d : Dt) : iter fu step (J 0, d) = some (wrf d dc (fun q => if b' ≤ q ∧ q < b' + 187 then d sc (b + (q - b')) else d dc q)) := by
  apply ok_eq
  refine iter_up 0 187 (fun i s => s = (J i, wrf d dc (fun q => if b' ≤ q ∧ q < b' + i then d sc (b + (q - b')) else d dc q))) ?_ (by decide) (by decide) ?_ ?_
  · congr 1
    have e : (fun q => if b' ≤ q ∧ q < b' + 0 then d sc (b + (q - b')) else d dc q) = d dc := by
      funext q
      rw [if_neg (by omega)]
    rw [e, wrf_self]
  · intro i s hi hs
    subst hs
    rw [hstep i _ hi, ok_s]
    refine Or.inl ⟨_, rfl, ?_⟩
    rw [wr_wrf, wrf_wrf, wrf_i, wrf_k hne]
    congr 2
    funext q
    unfold upd
    by_cases h : q = b' + i
    · rw [if_pos h, if_pos (by omega)]
      congr 1
      omega
    · rw [if_neg h]
      dsimp only
      by_cases h2 : b' ≤ q ∧ q < b' + i
      · rw [if_pos h2, if_pos (by omega)]
      · rw [if_neg h2, if_neg (by omega)]
  · intro s hs
    subst hs
    rw [hend, ok_s]
    exact ⟨_, rfl, rfl⟩
theorem M_copies {b' : Nat} (hb : b' + 187 ≤ 1496) (d : Dt) : f_M_copies 0 (J b') d = some (wrf d 294 (fun q => if b' ≤ q ∧ q < b' + 187 then d 293 (q - b') else d 294 q)) := by
  have h := copy_gen (step := fun s => st_M_copies_3 (J 0) (J b') s.1 s.2) 293 294 0 b' (by decide) (fun j d hj => by
    show st_M_copies_3 (J 0) (J b') (J j) d = _
    unfold st_M_copies_3 bnd
    simp (disch := omega) only [ite_true, ite_false, J_lit, J_add, J_mul, J_nat, J_inb, J_le, J_lt, J_inj, J_sub, J_div, gd_d, if_p, if_n, ob1_s, ob2_s, ir_s, ok_bnd, if_n]) (fun d => by
    show st_M_copies_3 (J 0) (J b') (J 187) d = _
    unfold st_M_copies_3
    simp (disch := omega) only [ite_true, ite_false, J_lit, J_add, J_mul, J_nat, J_inb, J_le, J_lt, J_inj, J_sub, J_div, gd_d, if_p, if_n, ob1_s, ob2_s, ir_s, ok_bnd, if_p, ir_s]) d
  simp only [Nat.zero_add] at h
  exact h
theorem M_copies_296_294 {b' : Nat} (hb : b' + 187 ≤ 1496) (d : Dt) : f_M_copies_296_294 0 (J b') d = some (wrf d 294 (fun q => if b' ≤ q ∧ q < b' + 187 then d 296 (q - b') else d 294 q)) := by
  have h := copy_gen (step := fun s => st_M_copies_296_294_3 (J 0) (J b') s.1 s.2) 296 294 0 b' (by decide) (fun j d hj => by
    show st_M_copies_296_294_3 (J 0) (J b') (J j) d = _
    unfold st_M_copies_296_294_3 bnd
    simp (disch := omega) only [ite_true, ite_false, J_lit, J_add, J_mul, J_nat, J_inb, J_le, J_lt, J_inj, J_sub, J_div, gd_d, if_p, if_n, ob1_s, ob2_s, ir_s, ok_bnd, if_n]) (fun d => by
    show st_M_copies_296_294_3 (J 0) (J b') (J 187) d = _
    unfold st_M_copies_296_294_3
    simp (disch := omega) only [ite_true, ite_false, J_lit, J_add, J_mul, J_nat, J_inb, J_le, J_lt, J_inj, J_sub, J_div, gd_d, if_p, if_n, ob1_s, ob2_s, ir_s, ok_bnd, if_p, ir_s]) d
  simp only [Nat.zero_add] at h
  exact h
theorem M_copies_294_293 {b : Nat} (hb : b + 187 ≤ 1496) (d : Dt) : f_M_copies_294_293 (J b) 0 d = some (wrf d 293 (fun q => if q < 187 then d 294 (b + q) else d 293 q)) := by
  have h := copy_gen (step := fun s => st_M_copies_294_293_3 (J b) (J 0) s.1 s.2) 294 293 b 0 (by decide) (fun j d hj => by
    show st_M_copies_294_293_3 (J b) (J 0) (J j) d = _
    unfold st_M_copies_294_293_3 bnd
    simp (disch := omega) only [ite_true, ite_false, J_lit, J_add, J_mul, J_nat, J_inb, J_le, J_lt, J_inj, J_sub, J_div, gd_d, if_p, if_n, ob1_s, ob2_s, ir_s, ok_bnd, if_n]) (fun d => by
    show st_M_copies_294_293_3 (J b) (J 0) (J 187) d = _
    unfold st_M_copies_294_293_3
    simp (disch := omega) only [ite_true, ite_false, J_lit, J_add, J_mul, J_nat, J_inb, J_le, J_lt, J_inj, J_sub, J_div, gd_d, if_p, if_n, ob1_s, ob2_s, ir_s, ok_bnd, if_p, ir_s]) d
  simp only [Nat.zero_add, Nat.zero_le, true_and, Nat.sub_zero] at h
  exact h
theorem M_copies_295_293 (d : Dt) : f_M_copies_295_293 0 0 d = some (wrf d 293 (fun q => if q < 187 then d 295 q else d 293 q)) := by
  have h := copy_gen (step := fun s => st_M_copies_295_293_3 (J 0) (J 0) s.1 s.2) 295 293 0 0 (by decide) (fun j d hj => by
    show st_M_copies_295_293_3 (J 0) (J 0) (J j) d = _
    unfold st_M_copies_295_293_3 bnd
    simp (disch := omega) only [ite_true, ite_false, J_lit, J_add, J_mul, J_nat, J_inb, J_le, J_lt, J_inj, J_sub, J_div, gd_d, if_p, if_n, ob1_s, ob2_s, ir_s, ok_bnd, if_n]) (fun d => by
    show st_M_copies_295_293_3 (J 0) (J 0) (J 187) d = _
    unfold st_M_copies_295_293_3
    simp (disch := omega) only [ite_true, ite_false, J_lit, J_add, J_mul, J_nat, J_inb, J_le, J_lt, J_inj, J_sub, J_div, gd_d, if_p, if_n, ob1_s, ob2_s, ir_s, ok_bnd, if_p, ir_s]) d
  simp only [Nat.zero_add, Nat.zero_le, true_and, Nat.sub_zero] at h
  exact h
theorem M_copies_293_295 (d : Dt) : f_M_copies_293_295 0 0 d = some (wrf d 295 (fun q => if q < 187 then d 293 q else d 295 q)) := by
  have h := copy_gen (step := fun s => st_M_copies_293_295_3 (J 0) (J 0) s.1 s.2) 293 295 0 0 (by decide) (fun j d hj => by
    show st_M_copies_293_295_3 (J 0) (J 0) (J j) d = _
    unfold st_M_copies_293_295_3 bnd
    simp (disch := omega) only [ite_true, ite_false, J_lit, J_add, J_mul, J_nat, J_inb, J_le, J_lt, J_inj, J_sub, J_div, gd_d, if_p, if_n, ob1_s, ob2_s, ir_s, ok_bnd, if_n]) (fun d => by
    show st_M_copies_293_295_3 (J 0) (J 0) (J 187) d = _
    unfold st_M_copies_293_295_3
    simp (disch := omega) only [ite_true, ite_false, J_lit, J_add, J_mul, J_nat, J_inb, J_le, J_lt, J_inj, J_sub, J_div, gd_d, if_p, if_n, ob1_s, ob2_s, ir_s, ok_bnd, if_p, ir_s]) d
  simp only [Nat.zero_add, Nat.zero_le, true_and, Nat.sub_zero] at h
  exact h
theorem M_copies_293_296 (d : Dt) : f_M_copies_293_296 0 0 d = some (wrf d 296 (fun q => if q < 187 then d 293 q else d 296 q)) := by
  have h := copy_gen (step := fun s => st_M_copies_293_296_3 (J 0) (J 0) s.1 s.2) 293 296 0 0 (by decide) (fun j d hj => by
    show st_M_copies_293_296_3 (J 0) (J 0) (J j) d = _
    unfold st_M_copies_293_296_3 bnd
    simp (disch := omega) only [ite_true, ite_false, J_lit, J_add, J_mul, J_nat, J_inb, J_le, J_lt, J_inj, J_sub, J_div, gd_d, if_p, if_n, ob1_s, ob2_s, ir_s, ok_bnd, if_n]) (fun d => by
    show st_M_copies_293_296_3 (J 0) (J 0) (J 187) d = _
    unfold st_M_copies_293_296_3
    simp (disch := omega) only [ite_true, ite_false, J_lit, J_add, J_mul, J_nat, J_inb, J_le, J_lt, J_inj, J_sub, J_div, gd_d, if_p, if_n, ob1_s, ob2_s, ir_s, ok_bnd, if_p, ir_s]) d
  simp only [Nat.zero_add, Nat.zero_le, true_and, Nat.sub_zero] at h
  exact h
theorem M_copies_296_293 (d : Dt) : f_M_copies_296_293 0 0 d = some (wrf d 293 (fun q => if q < 187 then d 296 q else d 293 q)) := by
  have h := copy_gen (step := fun s => st_M_copies_296_293_3 (J 0) (J 0) s.1 s.2) 296 293 0 0 (by decide) (fun j d hj => by
    show st_M_copies_296_293_3 (J 0) (J 0) (J j) d = _
    unfold st_M_copies_296_293_3 bnd
    simp (disch := omega) only [ite_true, ite_false, J_lit, J_add, J_mul, J_nat, J_inb, J_le, J_lt, J_inj, J_sub, J_div, gd_d, if_p, if_n, ob1_s, ob2_s, ir_s, ok_bnd, if_n]) (fun d => by
    show st_M_copies_296_293_3 (J 0) (J 0) (J 187) d = _
    unfold st_M_copies_296_293_3
    simp (disch := omega) only [ite_true, ite_false, J_lit, J_add, J_mul, J_nat, J_inb, J_le, J_lt, J_inj, J_sub, J_div, gd_d, if_p, if_n, ob1_s, ob2_s, ir_s, ok_bnd, if_p, ir_s]) d
  simp only [Nat.zero_add, Nat.zero_le, true_and, Nat.sub_zero] at h
  exact h
/-- the rows of the reference's undo stack -/
def KP (d : Dt) (us : List (Nat → Nat)) : Prop := d 292 5 = J us.length ∧ ∀ j, j < us.length → rowN d 294 (187 * j) (us.getD j zg)
theorem rowN_cong {d d' : Dt} {k b : Nat} {g : Nat → Nat} (h : rowN d k b g) (e : d' k = d k) : rowN d' k b g := by
  unfold rowN
  rw [e]
  exact h
/-- one row is laid on the stack -/
theorem keep63_gen {cp : Dt → Option Dt} {sc : Nat} {g : Nat → Nat} {us : List (Nat → Nat)} {d : Dt} (hcp : cp d = some (wrf d 294 (fun q => if 187 * us.length ≤ q ∧ q < 187 * us.length + 187 then d sc (q - 187 * us.length) else d 294 q))) (hr : rowN d sc 0 g) (hk : KP d us) (hl : us.length < 8) : ok (ob1 (cp d) fun d1 => bnd (wr d1 292 5 ((d1 292 5) + 1)) fun d2 => some d2) (fun d' => KP d' (us ++ [g]) ∧ (∀ k, k ≠ 292 → k ≠ 294 → d' k = d k) ∧ ∀ j, j ≠ 5 → d' 292 j = d 292 j) := by
  rw [hcp, ob1_s, ok_bnd, ok_s]
  refine ⟨⟨?_, fun j hj => ?_⟩, fun k h1 h2 => ?_, fun j hj => ?_⟩
  · rw [wr_s, wrf_k (by decide), hk.1, List.length_append]
    exact J_add
  · have h9 : ∀ q, q < 187 → (wr (wrf d 294 (fun q => if 187 * us.length ≤ q ∧ q < 187 * us.length + 187 then d sc (q - 187 * us.length) else d 294 q)) 292 5 ((wrf d 294 (fun q => if 187 * us.length ≤ q ∧ q < 187 * us.length + 187 then d sc (q - 187 * us.length) else d 294 q) 292 5) + 1)) 294 (187 * j + q) = if 187 * us.length ≤ 187 * j + q ∧ 187 * j + q < 187 * us.length + 187 then d sc (187 * j + q - 187 * us.length) else d 294 (187 * j + q) := fun q hq => by
      rw [wr_k (by decide), wrf_i]
    rw [List.length_append] at hj
    have hj : j < us.length + 1 := hj
    intro q hq
    rw [h9 q hq]
    by_cases h : j = us.length
    · subst h
      rw [if_pos (by omega), Nat.add_sub_cancel_left, List.getD_eq_getElem?_getD, List.getElem?_append_right (Nat.le_refl _), Nat.sub_self]
      have := hr q hq
      rwa [Nat.zero_add] at this
    · rw [if_neg (by omega), List.getD_eq_getElem?_getD, List.getElem?_append_left (by omega), ← List.getD_eq_getElem?_getD]
      exact hk.2 j (by omega) q hq
  · rw [wr_k h1, wrf_k h2]
  · rw [wr_j hj, wrf_k (by decide)]
/-- a full stack loses its oldest row -/
theorem shift_gen {step : Int32 × Dt → Option ((Int32 × Dt) ⊕ Dt)} {k63 : Dt → Option Dt} (hstep : ∀ j d, j < 1309 → step (J j, d) = some (.inl (J (j + 1), wr d 294 j (d 294 (j + 187))))) (hend : ∀ d, step (J 1309, d) = ir (k63 (wr d 292 5 ((d 292 5) - 1)))) (d : Dt) {Q : Dt → Prop} (h : ok (k63 (wr (wrf d 294 (fun q => if q < 1309 then d 294 (q + 187) else d 294 q)) 292 5 ((d 292 5) - 1))) Q) : ok (iter fu step (J 0, d)) Q := by
  refine iter_up 0 1309 (fun i s => s = (J i, wrf d 294 (fun q => if q < i then d 294 (q + 187) else d 294 q))) ?_ (by decide) (by decide) ?_ ?_
  · congr 1
    have e : (fun q => if q < 0 then d 294 (q + 187) else d 294 q) = d 294 := by
      funext q
      rw [if_neg (by omega)]
    rw [e, wrf_self]
  · intro i s hi hs
    subst hs
    rw [hstep i _ hi, ok_s]
    refine Or.inl ⟨_, rfl, ?_⟩
    rw [wr_wrf, wrf_wrf, wrf_i]
    congr 2
    funext q
    unfold upd
    dsimp only
    by_cases h : q = i
    · rw [if_pos h, if_neg (by omega : ¬ i + 187 < i), if_pos (by omega : q < i + 1), h]
    · rw [if_neg h]
      by_cases h2 : q < i
      · rw [if_pos h2, if_pos (by omega)]
      · rw [if_neg h2, if_neg (by omega)]
  · intro s hs
    subst hs
    rw [hend, ok_ir, wrf_k (by decide)]
    exact ok_mono h (fun t ht => ⟨t, rfl, ht⟩)
theorem shift_KP {d : Dt} {us : List (Nat → Nat)} (hk : KP d us) (h8 : us.length = 8) : KP (wr (wrf d 294 (fun q => if q < 1309 then d 294 (q + 187) else d 294 q)) 292 5 ((d 292 5) - 1)) us.tail := by
  refine ⟨?_, fun j hj => ?_⟩
  · rw [wr_s, hk.1, List.length_tail, h8]
    rfl
  · rw [List.length_tail, h8] at hj
    intro q hq
    rw [wr_k (by decide), wrf_i, if_pos (by omega), List.getD_eq_getElem?_getD, List.getElem?_tail, ← List.getD_eq_getElem?_getD]
    have h := hk.2 (j + 1) (by omega) q hq
    rw [← h]
    congr 1
    omega
def KQ (d : Dt) (us : List (Nat → Nat)) (g : Nat → Nat) (d' : Dt) : Prop := KP d' (pushU us g) ∧ (∀ k, k ≠ 292 → k ≠ 294 → d' k = d k) ∧ (∀ j, j ≠ 5 → j ≠ 7 → d' 292 j = d 292 j) ∧ d' 292 7 = J 0
theorem M_keeps {d : Dt} {us : List (Nat → Nat)} {g : Nat → Nat} (hr : rowN d 293 0 g) (hk : KP d us) (hl : us.length ≤ 8) (hw : d 292 6 = J 0) : ok (f_M_keeps d) (KQ d us g) := by
  unfold f_M_keeps
  rw [ok_bnd, wr_j (by decide), wr_j (by decide), hw, J_0, if_p (rfl : J 0 = J 0), hk.1]
  have hk1 : KP (wr d 292 7 (J 0)) us := ⟨by rw [wr_j (by decide)]; exact hk.1, fun j hj => rowN_cong (hk.2 j hj) (wr_k (by decide))⟩
  have hr1 : rowN (wr d 292 7 (J 0)) 293 0 g := rowN_cong hr (wr_k (by decide))
  generalize hd1 : wr d 292 7 (J 0) = d1 at hk1 hr1 ⊢
  have f1 : ∀ k, k ≠ 292 → d1 k = d k := fun k hk => by rw [← hd1]; exact wr_k hk
  have f2 : ∀ j, j ≠ 7 → d1 292 j = d 292 j := fun j hj => by rw [← hd1]; exact wr_j hj
  have f3 : d1 292 7 = J 0 := by rw [← hd1]; exact wr_s
  unfold KQ pushU
  by_cases h8 : us.length = 8
  · rw [if_pos (by rw [h8]; rfl)]
    unfold f_M_keeps_24
    refine shift_gen (step := fun s => st_M_keeps_24 s.1 s.2) (k63 := f_M_keeps_63) (fun j d hj => ?_) (fun d => ?_) d1 ?_
    · show st_M_keeps_24 (J j) d = _
      unfold st_M_keeps_24 bnd
      simp (disch := omega) only [ite_true, ite_false, J_lit, J_add, J_mul, J_nat, J_inb, J_le, J_lt, J_inj, J_sub, J_div, gd_d, if_p, if_n, ob1_s, ob2_s, ir_s, ok_bnd, if_n]
    · show st_M_keeps_24 (J 1309) d = _
      unfold st_M_keeps_24 bnd
      simp (disch := omega) only [ite_true, ite_false, J_lit, J_add, J_mul, J_nat, J_inb, J_le, J_lt, J_inj, J_sub, J_div, gd_d, if_p, if_n, ob1_s, ob2_s, ir_s, ok_bnd, if_p]
    · have hk2 := shift_KP hk1 h8
      have hr2 : rowN (wr (wrf d1 294 (fun q => if q < 1309 then d1 294 (q + 187) else d1 294 q)) 292 5 ((d1 292 5) - 1)) 293 0 g := rowN_cong hr1 (by rw [wr_k (by decide), wrf_k (by decide)])
      generalize hd2 : wr (wrf d1 294 (fun q => if q < 1309 then d1 294 (q + 187) else d1 294 q)) 292 5 ((d1 292 5) - 1) = d2 at hk2 hr2 ⊢
      have g1 : ∀ k, k ≠ 292 → k ≠ 294 → d2 k = d k := fun k h1 h2 => by rw [← hd2, wr_k h1, wrf_k h2, f1 k h1]
      have g2 : ∀ j, j ≠ 5 → d2 292 j = d1 292 j := fun j hj => by rw [← hd2, wr_j hj, wrf_k (by decide)]
      have ht : us.tail.length = 7 := by rw [List.length_tail, h8]
      have e5 : d2 292 5 = J 7 := by rw [hk2.1, ht]
      unfold f_M_keeps_63
      refine ok_mono (keep63_gen (cp := fun d' => f_M_copies 0 (187 * (d2 292 5)) d') (sc := 293) ?_ hr2 hk2 (by omega)) (fun t ht9 => ?_)
      · rw [e5, ht, show (187 * J 7 : Int32) = J 1309 by decide]
        exact M_copies (by decide) d2
      · refine ⟨by rw [if_pos h8]; exact ht9.1, fun k h1 h2 => (ht9.2.1 k h1 h2).trans (g1 k h1 h2), fun j h5 h7 => ?_, ?_⟩
        · rw [ht9.2.2 j h5, g2 j h5, f2 j h7]
        · rw [ht9.2.2 7 (by decide), g2 7 (by decide), f3]
  · rw [if_neg (show ¬ J us.length = 8 from fun h => h8 ((J_inj (by omega) (by omega)).mp (show J us.length = J 8 from h)))]
    have e5 : d1 292 5 = J us.length := hk1.1
    unfold f_M_keeps_63
    refine ok_mono (keep63_gen (cp := fun d' => f_M_copies 0 (187 * (d1 292 5)) d') (sc := 293) ?_ hr1 hk1 (by omega)) (fun t ht9 => ?_)
    · rw [e5, show (187 * J us.length : Int32) = J (187 * us.length) from J_mul]
      exact M_copies (by omega) d1
    · refine ⟨by rw [if_neg h8]; exact ht9.1, fun k h1 h2 => (ht9.2.1 k h1 h2).trans (f1 k h1), fun j h5 h7 => ?_, ?_⟩
      · rw [ht9.2.2 j h5, f2 j h7]
      · rw [ht9.2.2 7 (by decide), f3]
