/-! 56: the law's cases: writeLantern, writePlan -/
section WRITE
variable {D D' : Nat} {d d' d1 d2 : Dt} {g g' : Nat → Nat} {us us' : List (Nat → Nat)} {sv : Option (Nat → Nat)} {e f : Int32} {ln : Nat} {cs : Nat → Nat} {om : Nat} {os : Nat → Nat} {L i n k r : Nat} {xs : Nat → Int32} {l : List Nat}
theorem getD_in : ∀ (l : List Nat) (j : Nat), j < l.length → l.getD j 0 ∈ l := by
  intro l j h
  rw [List.getD_eq_getElem?_getD, List.getElem?_eq_getElem h]
  exact List.getElem_mem h
theorem St.out (h : St D d g us sv e f ln cs om os) (f1 : ∀ k, (k < 27 ∨ (52 ≤ k ∧ k < 277) ∨ (287 ≤ k ∧ k < 290) ∨ (293 ≤ k ∧ k < 298)) → d2 k = d k) (f2 : ∀ j, j ≠ 7 → j ≠ 13 → d2 292 j = d 292 j) (hc : OC d2 l) (hm : OM d2 l) (hl : l.length ≤ 60) (hch : ∀ c, c ∈ l → c < 65536) : Inv D d2 := by
  obtain ⟨h1, h2, h3, h4, h5, h6⟩ := h
  obtain ⟨w1, w2, w3, w4, w5, w6⟩ := h2
  obtain ⟨b1, b2, b3, b4, b5, b6, b7⟩ := h4
  obtain ⟨c1, c2, c3, c4, c5, c6, c7⟩ := h6
  refine ⟨g, us, sv, e, f, ln, cs, l.length, fun j => l.getD j 0, h1, ⟨w1, w2, w3, w4, w5, hl, fun j hj => hch _ (getD_in l j hj)⟩, h3.same h1.nl (fun k h7 h8 => f1 k (by omega)), ⟨?_, ?_, ?_, ?_, ?_, hc, ?_⟩, rowN_cong h5 (f1 293 (by omega)), ⟨?_, ?_, ?_, ?_, ?_, hm, ?_⟩⟩
  · obtain ⟨a1, nu, a2, a3, a4⟩ := b1
    refine ⟨by rw [f1 0 (by omega)]; exact a1, nu, a2, by rw [f1 0 (by omega)]; exact a3, fun j hj => (a4 j hj).same (w1.2 _ (getD_mem hj)).nl (fun k h7 h8 => f1 k (by omega))⟩
  · exact ⟨by rw [f1 0 (by omega)]; exact b2.1, fun s hs => (b2.2 s hs).same (w2 s hs).nl (fun k h7 h8 => f1 k (by omega))⟩
  · rw [f1 0 (by omega)]; exact b3
  · rw [f1 0 (by omega)]; exact b4
  · rw [f1 287 (by omega), f1 288 (by omega)]; exact b5
  · rw [f1 287 (by omega)]; exact b7
  · exact ⟨by rw [f2 5 (by decide) (by decide)]; exact c1.1, fun j hj => rowN_cong (c1.2 j hj) (f1 294 (by omega))⟩
  · exact ⟨by rw [f2 4 (by decide) (by decide)]; exact c2.1, fun s hs => rowN_cong (c2.2 s hs) (f1 295 (by omega))⟩
  · rw [f2 10 (by decide) (by decide)]; exact c3
  · rw [f2 11 (by decide) (by decide)]; exact c4
  · rw [f2 9 (by decide) (by decide), f1 297 (by omega)]; exact c5
  · rw [f2 6 (by decide) (by decide)]; exact c7
/-- what is written of a lantern -/
def sta : Nat → List Nat
  | 0 => []
  | n + 1 => sta n ++ [42]
def admC (g : Nat → Nat) (i : Nat) : List Nat := if g (14 + 11 * i) = 0 then [] else if g (14 + 11 * i) = 1 then [103] else [105]
def snt (g : Nat → Nat) (i : Nat) : Nat → List Nat
  | 0 => []
  | n + 1 => (snt g i n ++ [47]) ++ dg (g (16 + 11 * i + n))
def wl (g : Nat → Nat) (i : Nat) : List Nat := ((dg i ++ sta (g (13 + 11 * i))) ++ admC g i) ++ snt g i (g (15 + 11 * i))
theorem sta_len : ∀ n, (sta n).length = n := by
  intro n
  induction n with
  | zero => rfl
  | succ n ih =>
    show (sta n ++ [42]).length = n + 1
    rw [List.length_append, ih]
    rfl
theorem dg_1 (h : n ≤ 9) : (dg n).length = 1 := by
  unfold dg
  rw [if_p h]
  rfl
theorem admC_len : (admC g i).length ≤ 1 := by
  unfold admC
  by_cases q : g (14 + 11 * i) = 0
  · rw [if_p q]; exact Nat.zero_le _
  · rw [if_n q]
    by_cases q2 : g (14 + 11 * i) = 1
    · rw [if_p q2]; exact Nat.le_refl _
    · rw [if_n q2]; exact Nat.le_refl _
theorem snt_len (hw : WF D g) (hi : i < g 0) : ∀ n, n ≤ g (15 + 11 * i) → (snt g i n).length = 2 * n := by
  intro n
  induction n with
  | zero => intro _; rfl
  | succ n ih =>
    intro hn
    have h9 := (hw.sen hi (j := n) (by omega)).2
    show ((snt g i n ++ [47]) ++ dg (g (16 + 11 * i + n))).length = _
    rw [List.length_append, List.length_append, ih (by omega), dg_1 h9]
    show 2 * n + 1 + 1 = _
    omega
theorem sta_ch : ∀ n c, c ∈ sta n → c < 65536 := by
  intro n
  induction n with
  | zero => intro c hc; exact absurd hc List.not_mem_nil
  | succ n ih =>
    intro c hc
    rcases List.mem_append.mp hc with hc | hc
    · exact ih c hc
    · rw [List.mem_singleton] at hc
      rw [hc]; decide
theorem wl_ok (hw : WF D g) (hi : i < g 0) : (wl g i).length ≤ 60 ∧ ∀ c, c ∈ wl g i → c < 65536 := by
  have h8 := hw.nl
  have hb := hw.bri hi
  have hs := hw.sc hi
  have a1 := admC_len (g := g) (i := i)
  refine ⟨?_, fun c hc => ?_⟩
  · unfold wl
    rw [List.length_append, List.length_append, List.length_append, snt_len hw hi _ (Nat.le_refl _), sta_len, dg_1 (by omega)]
    omega
  · unfold wl at hc
    rcases List.mem_append.mp hc with hc | hc
    · rcases List.mem_append.mp hc with hc | hc
      · rcases List.mem_append.mp hc with hc | hc
        · exact dg_ch (by omega) c hc
        · exact sta_ch _ c hc
      · unfold admC at hc
        by_cases q : g (14 + 11 * i) = 0
        · rw [if_p q] at hc
          exact absurd hc List.not_mem_nil
        · rw [if_n q] at hc
          by_cases q2 : g (14 + 11 * i) = 1
          · rw [if_p q2, List.mem_singleton] at hc
            rw [hc]; decide
          · rw [if_n q2, List.mem_singleton] at hc
            rw [hc]; decide
    · have : ∀ n, n ≤ g (15 + 11 * i) → ∀ c, c ∈ snt g i n → c < 65536 := by
        intro n
        induction n with
        | zero => intro _ c hc; exact absurd hc List.not_mem_nil
        | succ n ih =>
          intro hn c hc
          have h9 := (hw.sen hi (j := n) (by omega)).2
          rcases List.mem_append.mp hc with hc | hc
          · rcases List.mem_append.mp hc with hc | hc
            · exact ih (by omega) c hc
            · rw [List.mem_singleton] at hc
              rw [hc]; decide
          · exact dg_ch (by omega) c hc
      exact this _ (Nat.le_refl _) c hc
theorem frC.sim (h : frC d d1) (hS : Sim d 2 g) (h8 : g 0 ≤ 8) : Sim d1 2 g := hS.same h8 (fun k h1 h2 => h k (by omega) (by omega))
theorem C_wl99 (hS : Sim d 2 g) (hw : WF D g) (hi : i < g 0) (h : OC d l) (hl : l.length ≤ 20) : ok (f_C_writeLantern_99 (J i) (J 0) d) (fun z => ∃ d', z = .inl (J (l ++ snt g i (g (15 + 11 * i))).length, d') ∧ OC d' (l ++ snt g i (g (15 + 11 * i))) ∧ frC d d') := by
  have h8 := hw.nl
  have hs := hw.sc hi
  unfold f_C_writeLantern_99
  refine iter_up 0 (g (15 + 11 * i)) (fun n z => ∃ d5, z = (J n, d5) ∧ OC d5 (l ++ snt g i n) ∧ frC d d5) ⟨d, rfl, by show OC d (l ++ []); rw [List.append_nil]; exact h, frC.refl⟩ (Nat.zero_le _) (by omega) ?_ ?_
  · intro n z hn hz
    obtain ⟨d5, rfl, z1, z2⟩ := hz
    have S5 := z2.sim hS h8
    have e6 : d5 6 i = J (g (15 + 11 * i)) := S5.sc hi
    have h9 := (hw.sen hi (j := n) hn).2
    have hln := snt_len hw hi n (by omega)
    have hlen : (l ++ snt g i n).length ≤ 36 := by rw [List.length_append]; omega
    unfold st_C_writeLantern_99
    simp only [J_lit]
    rw [J_inb (by omega), gd_d (by omega), J_nat (by omega), e6, if_n (fun q => by have := (J_le (by omega) (by omega)).mp q; omega), ok_ob1]
    refine ok_mono (O_put z1 (by omega) (by decide)) (fun d6 h6 => ?_)
    have S6 := h6.2.sim S5 h8
    have e8 : d6 (8 + i) n = J (g (16 + 11 * i + n)) := by
      rw [show 8 + i = 2 + 6 + i by omega]
      exact S6.sen hi hn
    rw [gd_d (by omega), J_inb (by omega), gd_d (by omega), J_nat (by omega), e8, ok_ob1]
    refine ok_mono (O_num h6.1 (by rw [List.length_append]; show _ + 1 + 10 < 128; omega) (by omega)) (fun d7 h7 => ?_)
    rw [ok_s, J_add]
    refine Or.inl ⟨_, rfl, d7, rfl, ?_, (z2.trans h6.2).trans h7.2⟩
    have := h7.1
    rw [eU_dg (by omega), List.append_assoc, List.append_assoc, ← List.append_assoc (snt g i n)] at this
    exact this
  · intro z hz
    obtain ⟨d5, rfl, z1, z2⟩ := hz
    have e6 : d5 6 i = J (g (15 + 11 * i)) := (z2.sim hS h8).sc hi
    unfold st_C_writeLantern_99
    simp only [J_lit]
    rw [J_inb (by omega), gd_d (by omega), J_nat (by omega), e6, if_p ((J_le (by omega) (by omega)).mpr (Nat.le_refl _)), ok_ir, ok_s, z1.1]
    exact ⟨_, rfl, d5, rfl, z1, z2⟩
theorem C_wl (hS : Sim d 2 g) (hw : WF D g) (hi : i < g 0) : ok (ob1 (f_O_empty d) fun d7 => ob1 (f_O_putNumber (J i) d7) fun d8 => f_C_writeLantern_22 (J i) (J 0) d8) (fun z => ∃ d', z = .inl (J (wl g i).length, d') ∧ OC d' (wl g i) ∧ frC d d') := by
  have h8 := hw.nl
  have hb := hw.bri hi
  have ha := hw.adm hi
  have hE : OC (wr d 290 1 (J 0)) [] := ⟨wr_s, fun j hj => absurd hj (Nat.not_lt_zero j)⟩
  have fE : frC d (wr d 290 1 (J 0)) := fun k h1 h2 => wr_k h1
  unfold f_O_empty
  simp only [J_lit]
  rw [ok_ob1, ok_bnd, ok_s, ok_ob1]
  refine ok_mono (O_num hE (by decide) (by omega)) (fun d8 h8' => ?_)
  obtain ⟨o8, f8⟩ := h8'
  have o8b : OC d8 (dg i) := by
    have := o8
    rw [eU_dg (by omega)] at this
    exact this
  have f8b := fE.trans f8
  have hd1 : (dg i).length = 1 := dg_1 (by omega)
  unfold f_C_writeLantern_22
  refine iter_up 0 (g (13 + 11 * i)) (fun n z => ∃ d5, z = (J n, d5) ∧ OC d5 (dg i ++ sta n) ∧ frC d d5) ⟨d8, rfl, by show OC d8 (dg i ++ []); rw [List.append_nil]; exact o8b, f8b⟩ (Nat.zero_le _) (by omega) ?_ ?_
  · intro n z hn hz
    obtain ⟨d5, rfl, z1, z2⟩ := hz
    have S5 := z2.sim hS h8
    have e4 : d5 4 i = J (g (13 + 11 * i)) := S5.bri hi
    have hsl := sta_len n
    unfold st_C_writeLantern_22
    simp only [J_lit]
    rw [J_inb (by omega), gd_d (by omega), J_nat (by omega), e4, if_n (fun q => by have := (J_le (by omega) (by omega)).mp q; omega), ok_ob1]
    refine ok_mono (O_put z1 (by rw [List.length_append]; omega) (by decide)) (fun d6 h6 => ?_)
    rw [ok_s, J_add]
    refine Or.inl ⟨_, rfl, d6, rfl, ?_, z2.trans h6.2⟩
    have := h6.1
    rw [List.append_assoc] at this
    exact this
  · intro z hz
    obtain ⟨d5, rfl, z1, z2⟩ := hz
    have S5 := z2.sim hS h8
    have e4 : d5 4 i = J (g (13 + 11 * i)) := S5.bri hi
    have e5 : d5 5 i = J (g (14 + 11 * i)) := S5.adm hi
    have hsl := sta_len (g (13 + 11 * i))
    have hlen : (dg i ++ sta (g (13 + 11 * i))).length ≤ 10 := by rw [List.length_append]; omega
    have fin : ∀ d6, OC d6 ((dg i ++ sta (g (13 + 11 * i))) ++ admC g i) → frC d d6 → ok (f_C_writeLantern_99 (J i) (J 0) d6) (fun t => ∃ x, (Sum.inr t : (Int32 × Dt) ⊕ ((Int32 × Dt) ⊕ (Nat × Dt))) = .inr x ∧ ∃ d', x = .inl (J (wl g i).length, d') ∧ OC d' (wl g i) ∧ frC d d') := fun d6 o6 f6 => by
      have a1 := admC_len (g := g) (i := i)
      refine ok_mono (C_wl99 (f6.sim hS h8) hw hi o6 (by rw [List.length_append]; omega)) (fun z hz => ?_)
      obtain ⟨d', rfl, y1, y2⟩ := hz
      exact ⟨_, rfl, d', rfl, y1, f6.trans y2⟩
    have put : ∀ c, c < 65536 → admC g i = [c] → ok (f_C_writeLantern_94 (J i) (J c) d5) (fun t => ∃ x, (Sum.inr t : (Int32 × Dt) ⊕ ((Int32 × Dt) ⊕ (Nat × Dt))) = .inr x ∧ ∃ d', x = .inl (J (wl g i).length, d') ∧ OC d' (wl g i) ∧ frC d d') := fun c hc hA => by
      unfold f_C_writeLantern_94
      simp only [J_lit]
      rw [ok_ob1]
      refine ok_mono (O_put z1 (by omega) hc) (fun d6 h6 => fin d6 (by rw [hA]; exact h6.1) (z2.trans h6.2))
    unfold st_C_writeLantern_22
    simp only [J_lit]
    rw [J_inb (by omega), gd_d (by omega), J_nat (by omega), e4, if_p ((J_le (by omega) (by omega)).mpr (Nat.le_refl _)), ok_ir, gd_d (by omega), e5]
    by_cases q : g (14 + 11 * i) = 0
    · rw [if_p (by rw [q])]
      refine fin d5 ?_ z2
      unfold admC
      rw [if_p q, List.append_nil]
      exact z1
    · have hadm : f_L_admits (J i) (J 1) d5 = some (J (if g (14 + 11 * i) = 1 then 1 else 0)) := by
        unfold f_L_admits f_L_admits_15
        simp only [J_lit]
        rw [J_inb (by omega), gd_d (by omega), J_nat (by omega), e5, if_n n10]
        by_cases q2 : g (14 + 11 * i) = 1
        · rw [if_p (by rw [q2]), if_p q2]
        · rw [if_n (J_ne q2 (by omega) (by decide)), if_n q2]
      rw [if_n (J_ne q (by omega) (by decide)), hadm, ob1_s]
      by_cases q2 : g (14 + 11 * i) = 1
      · rw [if_p q2, if_n n10]
        exact put 103 (by decide) (by unfold admC; rw [if_n q, if_p q2])
      · rw [if_n q2, if_p rfl]
        exact put 105 (by decide) (by unfold admC; rw [if_n q, if_n q2])
theorem frM.row (h : frM d d1) (hr : rowN d 293 0 g) : rowN d1 293 0 g := rowN_cong hr (h.1 293 (by decide) (by decide))
theorem M_wl76 (hr : rowN d 293 0 g) (hw : WF D g) (hi : i < g 0) (h : OM d l) (hl : l.length ≤ 20) : ok (f_M_writeLantern_76 (J i) (J 0) d) (fun z => z.1 = J (l ++ snt g i (g (15 + 11 * i))).length ∧ OM z.2 (l ++ snt g i (g (15 + 11 * i))) ∧ frM d z.2) := by
  have h8 := hw.nl
  have hs := hw.sc hi
  unfold f_M_writeLantern_76
  refine iter_up 0 (g (15 + 11 * i)) (fun n z => ∃ d5, z = (J n, d5) ∧ OM d5 (l ++ snt g i n) ∧ frM d d5) ⟨d, rfl, by show OM d (l ++ []); rw [List.append_nil]; exact h, frM.refl⟩ (Nat.zero_le _) (by omega) ?_ ?_
  · intro n z hn hz
    obtain ⟨d5, rfl, z1, z2⟩ := hz
    have r5 := z2.row hr
    have e6 : d5 293 (13 + 11 * i + 2) = J (g (15 + 11 * i)) := by rw [r5.at (by omega), show 13 + 11 * i + 2 = 15 + 11 * i by omega]
    have h9 := (hw.sen hi (j := n) hn).2
    have hln := snt_len hw hi n (by omega)
    have hlen : (l ++ snt g i n).length ≤ 36 := by rw [List.length_append]; omega
    unfold st_M_writeLantern_76
    simp only [J_lit]
    rw [M_of (by omega) (by decide), ob1_s, e6, if_n (fun q => by have := (J_le (by omega) (by omega)).mp q; omega), ok_ob1]
    refine ok_mono (M_writes z1 (by omega) (by decide)) (fun d6 h6 => ?_)
    have r6 := h6.2.row r5
    have e8 : d6 293 (13 + 11 * i + (3 + n)) = J (g (16 + 11 * i + n)) := by rw [r6.at (by omega), show 13 + 11 * i + (3 + n) = 16 + 11 * i + n by omega]
    rw [J_add, M_of (by omega) (by omega), ob1_s, e8, ok_ob1]
    refine ok_mono (M_num h6.1 (by rw [List.length_append]; show _ + 1 < 56; omega) (by omega)) (fun d7 h7 => ?_)
    rw [ok_s, J_add]
    refine Or.inl ⟨_, rfl, d7, rfl, ?_, (z2.trans h6.2).trans h7.2⟩
    have := h7.1
    rw [List.append_assoc, List.append_assoc, ← List.append_assoc (snt g i n)] at this
    exact this
  · intro z hz
    obtain ⟨d5, rfl, z1, z2⟩ := hz
    have r5 := z2.row hr
    have e6 : d5 293 (13 + 11 * i + 2) = J (g (15 + 11 * i)) := by rw [r5.at (by omega), show 13 + 11 * i + 2 = 15 + 11 * i by omega]
    unfold st_M_writeLantern_76
    simp only [J_lit]
    rw [M_of (by omega) (by decide), ob1_s, e6, if_p ((J_le (by omega) (by omega)).mpr (Nat.le_refl _)), ok_ir, ok_s, z1.1]
    exact ⟨_, rfl, rfl, z1, z2⟩
theorem M_wl (hr : rowN d 293 0 g) (hw : WF D g) (hi : i < g 0) : ok (bnd (wr d 292 13 (J 0)) fun d12 => ob1 (f_M_writesNumber_r5 (J i) d12) fun d13 => f_M_writeLantern_22 (J i) (J 0) d13) (fun z => z.1 = J (wl g i).length ∧ OM z.2 (wl g i) ∧ frM d z.2) := by
  have h8 := hw.nl
  have hb := hw.bri hi
  have ha := hw.adm hi
  have hE : OM (wr d 292 13 (J 0)) [] := ⟨wr_s, fun j hj => absurd hj (Nat.not_lt_zero j)⟩
  have fE : frM d (wr d 292 13 (J 0)) := ⟨fun k h1 h2 => wr_k h1, fun j hj => wr_j hj⟩
  rw [ok_bnd, ok_ob1]
  refine ok_mono (M_num (n := i) hE (by decide) (by omega)) (fun d8 h8' => ?_)
  obtain ⟨o8, f8⟩ := h8'
  have o8b : OM d8 (dg i) := o8
  have f8b := fE.trans f8
  have hd1 : (dg i).length = 1 := dg_1 (by omega)
  unfold f_M_writeLantern_22
  refine iter_up 0 (g (13 + 11 * i)) (fun n z => ∃ d5, z = (J n, d5) ∧ OM d5 (dg i ++ sta n) ∧ frM d d5) ⟨d8, rfl, by show OM d8 (dg i ++ []); rw [List.append_nil]; exact o8b, f8b⟩ (Nat.zero_le _) (by omega) ?_ ?_
  · intro n z hn hz
    obtain ⟨d5, rfl, z1, z2⟩ := hz
    have r5 := z2.row hr
    have e4 : d5 293 (13 + 11 * i + 0) = J (g (13 + 11 * i)) := by rw [r5.at (by omega), Nat.add_zero]
    have hsl := sta_len n
    unfold st_M_writeLantern_22
    simp only [J_lit]
    rw [M_of (by omega) (by decide), ob1_s, e4, if_n (fun q => by have := (J_le (by omega) (by omega)).mp q; omega), ok_ob1]
    refine ok_mono (M_writes z1 (by rw [List.length_append]; omega) (by decide)) (fun d6 h6 => ?_)
    rw [ok_s, J_add]
    refine Or.inl ⟨_, rfl, d6, rfl, ?_, z2.trans h6.2⟩
    have := h6.1
    rw [List.append_assoc] at this
    exact this
  · intro z hz
    obtain ⟨d5, rfl, z1, z2⟩ := hz
    have r5 := z2.row hr
    have e4 : d5 293 (13 + 11 * i + 0) = J (g (13 + 11 * i)) := by rw [r5.at (by omega), Nat.add_zero]
    have e5 : d5 293 (13 + 11 * i + 1) = J (g (14 + 11 * i)) := by rw [r5.at (by omega), show 13 + 11 * i + 1 = 14 + 11 * i by omega]
    have hsl := sta_len (g (13 + 11 * i))
    have hlen : (dg i ++ sta (g (13 + 11 * i))).length ≤ 10 := by rw [List.length_append]; omega
    have fin : ∀ d6, OM d6 ((dg i ++ sta (g (13 + 11 * i))) ++ admC g i) → frM d d6 → ok (f_M_writeLantern_76 (J i) (J 0) d6) (fun t => ∃ x, (Sum.inr t : (Int32 × Dt) ⊕ (Int32 × Dt)) = .inr x ∧ x.1 = J (wl g i).length ∧ OM x.2 (wl g i) ∧ frM d x.2) := fun d6 o6 f6 => by
      have a1 := admC_len (g := g) (i := i)
      refine ok_mono (M_wl76 (f6.row hr) hw hi o6 (by rw [List.length_append]; omega)) (fun z hz => ?_)
      exact ⟨_, rfl, hz.1, hz.2.1, f6.trans hz.2.2⟩
    have put : ∀ c, c < 65536 → admC g i = [c] → ok (f_M_writeLantern_71 (J i) (J c) d5) (fun t => ∃ x, (Sum.inr t : (Int32 × Dt) ⊕ (Int32 × Dt)) = .inr x ∧ x.1 = J (wl g i).length ∧ OM x.2 (wl g i) ∧ frM d x.2) := fun c hc hA => by
      unfold f_M_writeLantern_71
      simp only [J_lit]
      rw [ok_ob1]
      refine ok_mono (M_writes z1 (by omega) hc) (fun d6 h6 => fin d6 (by rw [hA]; exact h6.1) (z2.trans h6.2))
    unfold st_M_writeLantern_22
    simp only [J_lit]
    rw [M_of (by omega) (by decide), ob1_s, e4, if_p ((J_le (by omega) (by omega)).mpr (Nat.le_refl _)), ok_ir, M_of (by omega) (by decide), ob1_s, ob1_s, e5]
    by_cases q : g (14 + 11 * i) = 0
    · rw [if_p ((J_le (by omega) (by omega)).mpr (by omega))]
      refine fin d5 ?_ z2
      unfold admC
      rw [if_p q, List.append_nil]
      exact z1
    · rw [if_n (fun u => by have := (J_le (by omega) (by omega)).mp u; omega)]
      by_cases q2 : g (14 + 11 * i) = 1
      · rw [if_p (by rw [q2])]
        exact put 103 (by decide) (by unfold admC; rw [if_n q, if_p q2])
      · rw [if_n (J_ne q2 (by omega) (by decide))]
        exact put 105 (by decide) (by unfold admC; rw [if_n q, if_n q2])
theorem OC_cong (h : OC d l) (h1 : d1 290 = d 290) (h2 : d1 291 = d 291) : OC d1 l := by
  unfold OC
  rw [h1, h2]
  exact h
theorem P_writeLantern {x : Int32} (h : St D d g us sv e f ln cs om os) : ok (f_W_writeLantern x d) (Pr (fun d => f_M_writeLantern x d) D) := by
  have hw := h.wf
  have h8 := hw.nl
  unfold f_W_writeLantern f_C_writeLantern
  simp only [J_lit]
  by_cases q : isIn (g 0) x
  · rw [(C_checkL h.sim h8).1 q, ok_ocW, ok_ocU, ok_s, Sum.elim_inl]
    obtain ⟨i, hi, rfl⟩ := q
    refine ok_mono (C_wl h.sim hw hi) (fun z hz => ?_)
    obtain ⟨d3, rfl, o3, f3⟩ := hz
    rw [Sum.elim_inl, ok_bnd, ok_s]
    have hr : rowN (wr d3 300 0 (J (wl g i).length)) 293 0 g := rowN_cong h.row (by rw [wr_k (by decide), f3 293 (by decide) (by decide)])
    refine ⟨0, by decide, rfl, ?_⟩
    unfold f_M_writeLantern
    simp only [J_lit]
    rw [(M_isNone hr h8).1 ⟨i, hi, rfl⟩, ob2_s, if_p rfl]
    have hr2 : rowN (wr (wr d3 300 0 (J (wl g i).length)) 292 7 (J 0)) 293 0 g := rowN_cong hr (wr_k (by decide))
    refine ok_mono (M_wl hr2 hw hi) (fun u hu => ?_)
    obtain ⟨u1, u2, u3⟩ := hu
    obtain ⟨k1, k2⟩ := wl_ok hw hi
    refine ⟨?_, fun _ => ?_, ?_⟩
    · rw [u3.2 7 (by decide), wr_s]
    · rw [u3.1 300 (by decide) (by decide), wr_k (by decide), wr_s, u1]
    · refine h.out (fun k hk => ?_) (fun j h7 h13 => ?_) (OC_cong o3 ?_ ?_) u2 k1 k2
      · rw [u3.1 k (by omega) (by omega), wr_k (by omega), wr_k (by omega), f3 k (by omega) (by omega)]
      · rw [u3.2 j h13, wr_j h7, wr_k (by decide), f3 292 (by decide) (by decide)]
      · rw [u3.1 290 (by decide) (by decide), wr_k (by decide), wr_k (by decide)]
      · rw [u3.1 291 (by decide) (by decide), wr_k (by decide), wr_k (by decide)]
  · rw [(C_checkL h.sim h8).2 q, ok_ocW, ok_ocU, ok_s, Sum.elim_inr, ok_s, Sum.elim_inr]
    show ok (if (1 : Nat) = 1 then some (J 1, d) else none) _
    rw [if_p rfl, ok_s]
    refine pr_fail h (Nat.le_refl D) 1 (by decide) (by decide) (fun hp => ?_)
    unfold f_M_writeLantern
    simp only [J_lit]
    rw [(M_isNone hp.1 h8).2 q, ob2_s, if_n n10, ok_s]
    exact MO_code hp.1 hp.2.1 1
theorem law_writeLantern (h : St D d g us sv e f ln cs om os) (hi : i + 5 ≤ L) (hL : L ≤ 2560) : ok (f_W_law_2681 L xs (J i) d) (fun y => ∃ d', y = .inl (J i + 5, d') ∧ Inv D d') := by
  unfold f_W_law_2681
  simp only [gdx1 hi hL]
  exact tail_i (P := Inv D) (P_writeLantern h)
/-- the brief at place r -/
def hvO (g : Nat → Nat) (r : Nat) : Nat → Nat
  | 0 => 0
  | k + 1 => if (plT g).testBit k = true ∧ hpl g k = r then k else hvO g r k
theorem hvO_of (hw : WF D g) (hi : i < g 3) (hT : (plT g).testBit i = true) (h0 : hpl g i = r) : ∀ k, k ≤ g 3 → i < k → hvO g r k = i := by
  intro k
  induction k with
  | zero => intro _ h; omega
  | succ k ih =>
    intro h1 h2
    show (if (plT g).testBit k = true ∧ hpl g k = r then k else hvO g r k) = i
    by_cases q : (plT g).testBit k = true ∧ hpl g k = r
    · rw [if_p q]
      exact hpl_inj hw (by omega) hi q.1 hT (q.2.trans h0.symm)
    · rw [if_n q]
      refine ih (by omega) ?_
      rcases (by omega : i < k ∨ i = k) with u | u
      · exact u
      · rw [← u] at q
        exact absurd ⟨hT, h0⟩ q
def wp (g : Nat → Nat) : Nat → List Nat
  | 0 => []
  | n + 1 => (wp g n ++ (if n = 0 then [] else [32])) ++ dg (g (101 + 5 * hvO g n (g 3)))
theorem hv_ex (hw : WF D g) (h : r < plN g) : hvO g r (g 3) < g 3 ∧ (plT g).testBit (hvO g r (g 3)) = true ∧ hpl g (hvO g r (g 3)) = r := by
  obtain ⟨i, i1, i2, i3⟩ := hpl_ex (g := g) hw h
  rw [hvO_of hw i1 i2 i3 (g 3) (Nat.le_refl _) i1]
  exact ⟨i1, i2, i3⟩
theorem wp_ok (hw : WF D g) (hD : D < 100000) : ∀ n, n ≤ plN g → (wp g n).length ≤ 6 * n - 1 ∧ ∀ c, c ∈ wp g n → c < 65536 := by
  intro n
  induction n with
  | zero => intro _; exact ⟨Nat.le_refl _, fun c hc => absurd hc List.not_mem_nil⟩
  | succ n ih =>
    intro hn
    obtain ⟨i1, i2⟩ := ih (by omega)
    obtain ⟨v1, v2, v3⟩ := hv_ex (g := g) (r := n) hw (by omega)
    have hb := (hw.br v1).1
    have hx := hw.nx
    have hd := dg_len (n := g (101 + 5 * hvO g n (g 3))) (by omega)
    refine ⟨?_, fun c hc => ?_⟩
    · show ((wp g n ++ (if n = 0 then [] else [32])) ++ dg (g (101 + 5 * hvO g n (g 3)))).length ≤ _
      rw [List.length_append, List.length_append]
      by_cases q : n = 0
      · rw [if_p q]
        show _ + 0 + _ ≤ _
        omega
      · rw [if_n q]
        show _ + 1 + _ ≤ _
        omega
    · rcases List.mem_append.mp hc with hc | hc
      · rcases List.mem_append.mp hc with hc | hc
        · exact i2 c hc
        · by_cases q : n = 0
          · rw [if_p q] at hc
            exact absurd hc List.not_mem_nil
          · rw [if_n q, List.mem_singleton] at hc
            rw [hc]; decide
      · exact dg_ch (by omega) c hc
theorem C_wp (hS : Sim d 2 g) (hw : WF D g) (hD : D < 100000) : ok (f_C_writePlan d) (fun z => z.1 = J (wp g (plN g)).length ∧ OC z.2 (wp g (plN g)) ∧ ∀ k, k < 277 ∨ (281 ≤ k ∧ k < 290) ∨ 292 ≤ k → z.2 k = d k) := by
  have h10 := hw.nb
  have hN := plN_le (g := g)
  have hx := hw.nx
  unfold f_C_writePlan f_O_empty
  simp only [J_lit]
  rw [ok_ob1]
  refine ok_mono (P_make hS hw hD) (fun d3 h3 => ?_)
  obtain ⟨⟨p1, p2, p3⟩, p4⟩ := h3
  rw [ok_ob1, ok_bnd, ok_s]
  have S3 : Sim d3 2 g := hS.same hw.nl (fun k h1 h2 => p4 k (by omega))
  unfold f_C_writePlan_30
  refine iter_up 0 (plN g) (fun n z => ∃ d5, z = (J n, d5) ∧ OC d5 (wp g n) ∧ frC d3 d5) ⟨_, rfl, ⟨wr_s, fun j hj => absurd hj (Nat.not_lt_zero j)⟩, fun k h1 h2 => wr_k h1⟩ (Nat.zero_le _) (by omega) ?_ ?_
  · intro n z hn hz
    obtain ⟨d5, rfl, z1, z2⟩ := hz
    obtain ⟨v1, v2, v3⟩ := hv_ex (g := g) (r := n) hw hn
    obtain ⟨k1, k2⟩ := wp_ok hw hD n (by omega)
    have hb := (hw.br v1).1
    have e277 : d5 277 0 = J (plN g) := by rw [z2 277 (by decide) (by decide)]; exact p2
    have body : ∀ d6, OC d6 (wp g n ++ (if n = 0 then [] else [32])) → frC d3 d6 → (wp g n ++ (if n = 0 then [] else [32])).length ≤ 60 → ok (f_C_writePlan_54 (J n) d6) (fun y => (∃ s', y = .inl s' ∧ ∃ d5, s' = (J (n + 1), d5) ∧ OC d5 (wp g (n + 1)) ∧ frC d3 d5) ∨ ∃ x, y = .inr x ∧ x.1 = J (wp g (plN g)).length ∧ OC x.2 (wp g (plN g)) ∧ ∀ k, k < 277 ∨ (281 ≤ k ∧ k < 290) ∨ 292 ≤ k → x.2 k = d k) := fun d6 o6 f6 hl6 => by
      have e278 : d6 278 n = J (hvO g n (g 3)) := by
        rw [f6 278 (by decide) (by decide)]
        have := p3 _ v1 v2
        rw [v3] at this
        exact this
      have e17 : d6 17 (hvO g n (g 3)) = J (g (101 + 5 * hvO g n (g 3))) := (f6.sim S3 hw.nl).bid v1
      unfold f_C_writePlan_54
      simp only [J_lit]
      rw [J_inb (by omega), gd_d (by omega), J_nat (by omega), e278, J_inb (by omega), gd_d (by omega), J_nat (by omega), e17, ok_ob1]
      refine ok_mono (O_num o6 (by omega) (by omega)) (fun d7 h7 => ?_)
      rw [ok_s, J_add]
      refine Or.inl ⟨_, rfl, d7, rfl, ?_, f6.trans h7.2⟩
      have := h7.1
      rw [eU_dg (by omega)] at this
      exact this
    unfold st_C_writePlan_30
    simp only [J_lit]
    rw [e277, if_n (fun q => by have := (J_le (by omega) (by omega)).mp q; omega)]
    by_cases q : n = 0
    · rw [if_p ((J_le (by omega) (by omega)).mpr (by omega))]
      refine body d5 ?_ z2 ?_
      · rw [if_p q, List.append_nil]; exact z1
      · rw [if_p q, List.append_nil]; omega
    · rw [if_n (fun u => by have := (J_le (by omega) (by omega)).mp u; omega), ok_ob1]
      refine ok_mono (O_put z1 (by omega) (by decide)) (fun d6 h6 => ?_)
      refine body d6 ?_ (z2.trans h6.2) ?_
      · rw [if_n q]; exact h6.1
      · rw [if_n q, List.length_append]
        show _ + 1 ≤ 60
        omega
  · intro z hz
    obtain ⟨d5, rfl, z1, z2⟩ := hz
    have e277 : d5 277 0 = J (plN g) := by rw [z2 277 (by decide) (by decide)]; exact p2
    unfold st_C_writePlan_30
    simp only [J_lit]
    rw [e277, if_p ((J_le (by omega) (by omega)).mpr (Nat.le_refl _)), ok_ir, ok_s, z1.1]
    exact ⟨_, rfl, rfl, z1, fun k hk => (z2 k (by omega) (by omega)).trans (p4 k (by omega))⟩
theorem M_bits (h : ∀ i, i < 31 → True) {x : Nat} : f_M_bits (J x) d = some (J (pc x 12)) := by
  apply ok_eq
  unfold f_M_bits f_M_bits_4
  simp only [J_lit]
  refine iter_up 0 12 (fun n z => z = (J (pc x n), J n)) rfl (by decide) (by decide) ?_ ?_
  · intro n z hn hz
    subst hz
    have e : pc x (n + 1) = pc x n + (if x.testBit n then 1 else 0) := rfl
    unfold st_M_bits_4
    simp only [J_lit]
    rw [if_n (fun q => by have := (J_le (by omega) (by omega)).mp q; omega), J_bit (by omega), J_add, J_add, ok_s, e]
    exact Or.inl ⟨_, rfl, rfl⟩
  · intro z hz
    subst hz
    unfold st_M_bits_4
    simp only [J_lit]
    rw [if_p (show J 12 ≤ J 12 by decide), ok_ir, ok_s]
    exact ⟨_, rfl, rfl⟩
theorem plN_pc (hw : WF D g) : pc (plT g) 12 = plN g := by
  have h10 := hw.nb
  have h := pc_top (plT_lt hw) (12 - g 3)
  rw [show g 3 + (12 - g 3) = 12 by omega, pc_cnt (g 3)] at h
  exact h
theorem M_wp (hr : rowN d 293 0 g) (hw : WF D g) (hD : D < 100000) : ok (f_M_writePlan d) (fun z => z.1 = J (wp g (plN g)).length ∧ OM z.2 (wp g (plN g)) ∧ (∀ k, k ≠ 292 → k ≠ 298 → z.2 k = d k) ∧ ∀ j, j ≠ 7 → j ≠ 13 → z.2 292 j = d 292 j) := by
  have h10 := hw.nb
  have hN := plN_le (g := g)
  have hx := hw.nx
  have hr2 : rowN (wr d 292 7 (J 0)) 293 0 g := rowN_cong hr (wr_k (by decide))
  unfold f_M_writePlan
  simp only [J_lit]
  rw [ok_bnd, M_plan hr2 hw hD, ob1_s, ok_bnd]
  have fE : frM (wr d 292 7 (J 0)) (wr (wr d 292 7 (J 0)) 292 13 (J 0)) := ⟨fun k h1 h2 => wr_k h1, fun j hj => wr_j hj⟩
  unfold f_M_writePlan_17
  refine iter_up 0 (plN g) (fun n z => ∃ d5, z = (J n, d5) ∧ OM d5 (wp g n) ∧ frM (wr d 292 7 (J 0)) d5) ⟨_, rfl, ⟨wr_s, fun j hj => absurd hj (Nat.not_lt_zero j)⟩, fE⟩ (Nat.zero_le _) (by omega) ?_ ?_
  · intro n z hn hz
    obtain ⟨d5, rfl, z1, z2⟩ := hz
    obtain ⟨v1, v2, v3⟩ := hv_ex (g := g) (r := n) hw hn
    obtain ⟨k1, k2⟩ := wp_ok hw hD n (by omega)
    have hb := (hw.br v1).1
    have body : ∀ d6, OM d6 (wp g n ++ (if n = 0 then [] else [32])) → frM (wr d 292 7 (J 0)) d6 → (wp g n ++ (if n = 0 then [] else [32])).length < 56 → ok (f_M_writePlan_35 (J (plT g)) (J n) d6) (fun y => (∃ s', y = .inl s' ∧ ∃ d5, s' = (J (n + 1), d5) ∧ OM d5 (wp g (n + 1)) ∧ frM (wr d 292 7 (J 0)) d5) ∨ ∃ x, y = .inr x ∧ x.1 = J (wp g (plN g)).length ∧ OM x.2 (wp g (plN g)) ∧ (∀ k, k ≠ 292 → k ≠ 298 → x.2 k = d k) ∧ ∀ j, j ≠ 7 → j ≠ 13 → x.2 292 j = d 292 j) := fun d6 o6 f6 hl6 => by
      have r6 := f6.row hr2
      have hM := M_hearing r6 hw hD v1 v2
      rw [v3] at hM
      have e0 : d6 293 (101 + 5 * hvO g n (g 3) + 0) = J (g (101 + 5 * hvO g n (g 3))) := by rw [r6.at (by omega), Nat.add_zero]
      unfold f_M_writePlan_35
      simp only [J_lit]
      rw [hM, ob1_s, M_brief (by omega) (by decide), ob1_s, e0, ok_ob1]
      refine ok_mono (M_num o6 hl6 (by omega)) (fun d7 h7 => ?_)
      rw [ok_s, J_add]
      exact Or.inl ⟨_, rfl, d7, rfl, h7.1, f6.trans h7.2⟩
    unfold st_M_writePlan_17
    simp only [J_lit]
    rw [M_bits (fun _ _ => trivial), ob1_s, plN_pc hw, if_n (fun q => by have := (J_le (by omega) (by omega)).mp q; omega)]
    by_cases q : n = 0
    · rw [if_p ((J_le (by omega) (by omega)).mpr (by omega))]
      refine body d5 ?_ z2 ?_
      · rw [if_p q, List.append_nil]; exact z1
      · rw [if_p q, List.append_nil]; omega
    · rw [if_n (fun u => by have := (J_le (by omega) (by omega)).mp u; omega), ok_ob1]
      refine ok_mono (M_writes z1 (by omega) (by decide)) (fun d6 h6 => ?_)
      refine body d6 ?_ (z2.trans h6.2) ?_
      · rw [if_n q]; exact h6.1
      · rw [if_n q, List.length_append]
        show _ + 1 < 56
        omega
  · intro z hz
    obtain ⟨d5, rfl, z1, z2⟩ := hz
    unfold st_M_writePlan_17
    simp only [J_lit]
    rw [M_bits (fun _ _ => trivial), ob1_s, plN_pc hw, if_p ((J_le (by omega) (by omega)).mpr (Nat.le_refl _)), ok_ir, ok_s, z1.1]
    exact ⟨_, rfl, rfl, z1, fun k h1 h2 => (z2.1 k h1 h2).trans (wr_k h1), fun j h7 h13 => (z2.2 j h13).trans (wr_j h7)⟩
theorem law_writePlan (h : St D d g us sv e f ln cs om os) (hD : D < 100000) : ok (f_W_law_2737 L xs (J i) d) (fun y => ∃ d', y = .inl (J i + 5, d') ∧ Inv D d') := by
  have hw := h.wf
  have hN := plN_le (g := g)
  have h10 := hw.nb
  obtain ⟨k1, k2⟩ := wp_ok hw hD (plN g) (Nat.le_refl _)
  unfold f_W_law_2737
  rw [ok_ob2]
  refine ok_mono (C_wp h.sim hw hD) (fun z hz => ?_)
  obtain ⟨z1, z2, z3⟩ := hz
  have hr : rowN z.2 293 0 g := rowN_cong h.row (z3 293 (by omega))
  rw [ok_ob2]
  refine ok_mono (M_wp hr hw hD) (fun u hu => ?_)
  obtain ⟨u1, u2, u3, u4⟩ := hu
  rw [z1, u1, if_p rfl, ok_s]
  refine ⟨_, rfl, h.out (fun k hk => ?_) (fun j h7 h13 => ?_) (OC_cong z2 (u3 290 (by decide) (by decide)) (u3 291 (by decide) (by decide))) u2 (by omega) k2⟩
  · rw [u3 k (by omega) (by omega), z3 k (by omega)]
  · rw [u4 j h7 h13, z3 292 (by omega)]
end WRITE
