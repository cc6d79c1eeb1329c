/-! 29: the law's cases: questions of the text, and of the hearings -/
section ASK3
variable {D D' : Nat} {d d1 d2 : Dt} {g g' : Nat → Nat} {us us' : List (Nat → Nat)} {sv : Option (Nat → Nat)} {e f : Int32} {ln : Nat} {cs : Nat → Nat} {om : Nat} {os : Nat → Nat} {L i : Nat} {xs : Nat → Int32} {b : Bool}
theorem nar_ch {a : Nat} (ha : a < 65536) : nar .char (J a) = true := by
  unfold nar
  rw [decide_eq_true_iff]
  show Value.int _ = Value.int _
  congr 1
  apply Int32.toBitVec_inj.mp
  apply BitVec.eq_of_toNat_eq
  show (((BitVec.ofNat 32 a).setWidth 16).setWidth 32).toNat = (BitVec.ofNat 32 a).toNat
  rw [BitVec.toNat_setWidth, BitVec.toNat_setWidth, BitVec.toNat_ofNat, Nat.mod_eq_of_lt (by omega : a < 2 ^ 32), Nat.mod_eq_of_lt (by omega : a < 2 ^ 16), Nat.mod_eq_of_lt (by omega : a < 2 ^ 32)]
theorem P_errorPosition (h : St D d g us sv e f ln cs om os) : ok (f_W_errorPosition d) (Pr (fun d => f_M_errorPosition d) D) := by
  have e1 : d 0 12 = e := h.2.2.2.1.2.2.1
  have e2 : d 292 10 = e := h.2.2.2.2.2.2.2.1
  unfold f_W_errorPosition f_C_errorPosition
  simp only [J_lit]
  rw [e1]
  rcases h.2.1.2.2.1 with he | ⟨n, hn, he⟩
  · rw [if_p he, ok_ocR, ok_s, Sum.elim_inr]
    show ok (if (3 : Nat) = 3 then some (J 1, d) else none) _
    rw [if_p rfl, ok_s]
    refine pr_fail h (Nat.le_refl D) 1 (by decide) (by decide) (fun hp => ?_)
    unfold f_M_errorPosition f_M_errorPosition_13
    simp only [J_lit]
    rw [e2, he, if_n (show ¬ J 0 ≤ -J 1 by decide), M_f1 (by decide) (by decide), ok_s]
    exact MO_code hp.1 hp.2.1 1
  · rw [if_n (by rw [he]; exact fun q => (J_ne1 (by omega)).mp q), ok_ocR, ok_s, Sum.elim_inl, ok_bnd, ok_s]
    refine pr_ans h (fun hp => ?_)
    unfold f_M_errorPosition f_M_errorPosition_13
    simp only [J_lit]
    rw [wr_k (by decide), e2, he, if_p ((J_le (by omega) (by omega)).mpr (Nat.zero_le _)), M_f0, ok_s]
    refine ⟨?_, MO_code (he ▸ hp).1 (he ▸ hp).2.1 0⟩
    show (wr (wr d 300 0 (J n)) 292 7 (J 0)) 292 10 = J n
    rw [wr_j (by decide), wr_k (by decide), e2, he]
theorem P_failedCommand (h : St D d g us sv e f ln cs om os) : ok (f_W_failedCommand d) (Pr (fun d => f_M_failedCommand d) D) := by
  have e1 : d 0 13 = f := h.2.2.2.1.2.2.2.1
  have e2 : d 292 11 = f := h.2.2.2.2.2.2.2.2.1
  unfold f_W_failedCommand f_C_failedCommand
  simp only [J_lit]
  rw [e1]
  rcases h.2.1.2.2.2.1 with he | ⟨n, hn, he⟩
  · rw [if_p he, ok_ocR, ok_s, Sum.elim_inr]
    show ok (if (3 : Nat) = 3 then some (J 1, d) else none) _
    rw [if_p rfl, ok_s]
    refine pr_fail h (Nat.le_refl D) 1 (by decide) (by decide) (fun hp => ?_)
    unfold f_M_failedCommand f_M_failedCommand_13
    simp only [J_lit]
    rw [e2, he, if_n (show ¬ J 0 ≤ -J 1 by decide), M_f1 (by decide) (by decide), ok_s]
    exact MO_code hp.1 hp.2.1 1
  · rw [if_n (by rw [he]; exact fun q => (J_ne1 (by omega)).mp q), ok_ocR, ok_s, Sum.elim_inl, ok_bnd, ok_s]
    refine pr_ans h (fun hp => ?_)
    unfold f_M_failedCommand f_M_failedCommand_13
    simp only [J_lit]
    rw [wr_k (by decide), e2, he, if_p ((J_le (by omega) (by omega)).mpr (Nat.zero_le _)), M_f0, ok_s]
    refine ⟨?_, MO_code (he ▸ hp).1 (he ▸ hp).2.1 0⟩
    show (wr (wr d 300 0 (J n)) 292 7 (J 0)) 292 11 = J n
    rw [wr_j (by decide), wr_k (by decide), e2, he]
theorem P_outputChar {x : Int32} (h : St D d g us sv e f ln cs om os) : ok (f_W_outputChar x d) (Pr (fun d => f_M_outputChar x d) D) := by
  have e1 : d 290 1 = J om := h.2.2.2.1.2.2.2.2.2.1.1
  have e2 : d 292 13 = J om := h.2.2.2.2.2.2.2.2.2.2.1.1
  obtain ⟨o1, o2⟩ := h.2.1.2.2.2.2.2
  unfold f_W_outputChar f_C_outputChar f_C_outputChar_15
  simp only [J_lit]
  rw [e1]
  by_cases q : isIn om x
  · obtain ⟨k, hk, rfl⟩ := q
    have e3 : d 291 k = J (os k) := h.2.2.2.1.2.2.2.2.2.1.2 k hk
    have e4 : d 298 k = J (os k) := h.2.2.2.2.2.2.2.2.2.2.1.2 k hk
    rw [if_n (J_neg (by omega)), if_p ((J_lt (by omega) (by omega)).mpr hk), J_inb (by omega), gd_d (by omega), J_nat (by omega), e3, gd_t1 (nar_ch (o2 k hk)), ok_ocR, ok_s, Sum.elim_inl, ok_bnd, ok_s]
    refine pr_ans h (fun hp => ?_)
    unfold f_M_outputChar f_M_outputChar_20
    simp only [J_lit]
    rw [wr_k (by decide), e2, (M_in1 (by omega)).1 ⟨k, hk, rfl⟩, ob1_s, if_n n10, M_f0, J_inb (by omega), gd_d (by omega), J_nat (by omega), wr_k (by decide), wr_k (by decide), e4, gd_t1 (nar_ch (o2 k hk)), ok_s]
    exact ⟨rfl, MO_code hp.1 hp.2.1 0⟩
  · have ex : (if x < J 0 then some (Sum.inr 1) else if x < J om then gd (inb x 128) <| gd (nar .char (d 291 x.toNatClampNeg)) <| some (.inl (d 291 x.toNatClampNeg)) else some (Sum.inr 1) : Option (Int32 ⊕ Nat)) = some (.inr 1) := by
      by_cases q1 : x < J 0
      · rw [if_p q1]
      rw [if_n q1, if_n]
      intro q2
      rcases J_cases x with hx | ⟨k, hk, rfl⟩
      · exact q1 hx
      · exact q ⟨k, (J_lt hk (by omega)).mp q2, rfl⟩
    rw [ex, ok_ocR, ok_s, Sum.elim_inr]
    show ok (if (1 : Nat) = 1 then some (J 1, d) else none) _
    rw [if_p rfl, ok_s]
    refine pr_fail h (Nat.le_refl D) 1 (by decide) (by decide) (fun hp => ?_)
    unfold f_M_outputChar f_M_outputChar_20
    simp only [J_lit]
    rw [e2, (M_in1 (by omega)).2 q, ob1_s, if_p rfl, M_f1 (by decide) (by decide), ok_s]
    exact MO_code hp.1 hp.2.1 1
theorem law_errorPosition (h : St D d g us sv e f ln cs om os) : ok (f_W_law_2593 L xs (J i) d) (fun y => ∃ d', y = .inl (J i + 5, d') ∧ Inv D d') :=
  tail_i (P := Inv D) (P_errorPosition h)
theorem law_failedCommand (h : St D d g us sv e f ln cs om os) : ok (f_W_law_2637 L xs (J i) d) (fun y => ∃ d', y = .inl (J i + 5, d') ∧ Inv D d') :=
  tail_i (P := Inv D) (P_failedCommand h)
theorem law_outputChar (h : St D d g us sv e f ln cs om os) (hi : i + 5 ≤ L) (hL : L ≤ 2560) : ok (f_W_law_2750 L xs (J i) d) (fun y => ∃ d', y = .inl (J i + 5, d') ∧ Inv D d') := by
  unfold f_W_law_2750
  simp only [gdx1 hi hL]
  exact tail_i (P := Inv D) (P_outputChar h)
theorem law_undoCount (h : St D d g us sv e f ln cs om os) : ok (f_W_law_2806 L xs (J i) d) (fun y => ∃ d', y = .inl (J i + 5, d') ∧ Inv D d') := by
  have e1 : d 0 10 = J us.length := h.2.2.2.1.1.1
  have e2 : d 292 5 = J us.length := h.2.2.2.2.2.1.1
  refine tail_q (c := 0) h rfl (fun hp => ?_)
  show ok (some ((wr d 292 7 (J 0)) 292 5, wr d 292 7 (J 0))) _
  rw [ok_s]
  refine ⟨?_, MO_code hp.1 hp.2.1 0⟩
  show (wr d 292 7 (J 0)) 292 5 = d 0 10
  rw [wr_j (by decide), e1, e2]
/-- the place of a character in a text of four -/
theorem JIc {k0 : Nat} (hL : sL k0 = 4) {c : Int32} : ok (f_JL_indexOfChar_7 k0 (J 4) c (J 0) d) (fun r => (r = -J 1 ∧ ∀ j, j < 4 → sB k0 j ≠ c) ∨ ∃ k, k < 4 ∧ r = J k ∧ sB k0 k = c ∧ ∀ j, j < k → sB k0 j ≠ c) := by
  unfold f_JL_indexOfChar_7
  refine iter_up 0 4 (fun n s => s = J n ∧ ∀ j, j < n → sB k0 j ≠ c) ⟨rfl, fun j hj => absurd hj (by omega)⟩ (by decide) (by decide) ?_ ?_
  · intro n s hn hs
    obtain ⟨rfl, hs⟩ := hs
    unfold st_JL_indexOfChar_7
    rw [if_n (fun q => by have := (J_le (by decide) (by omega)).mp q; omega), hL, J_inb (by omega), gd_d (by omega), J_nat (by omega)]
    by_cases q : sB k0 n = c
    · rw [if_p q, ok_ir, ok_s]
      exact Or.inr ⟨_, rfl, Or.inr ⟨n, hn, rfl, q, hs⟩⟩
    · rw [if_n q, ok_s]
      refine Or.inl ⟨_, rfl, (J_add : J n + J 1 = _), fun j hj => ?_⟩
      rcases (by omega : j < n ∨ j = n) with h | rfl
      · exact hs j h
      · exact q
  · intro s hs
    obtain ⟨rfl, hs⟩ := hs
    unfold st_JL_indexOfChar_7
    rw [if_p ((J_le (by decide) (by decide)).mpr (Nat.le_refl 4)), ok_ir, ok_s]
    exact ⟨_, rfl, Or.inl ⟨rfl, hs⟩⟩
theorem JIu {k0 : Nat} (h : k0 = 17 ∨ k0 = 29) {x : Int32} : f_JS_indexOf1 k0 x d = if x < 0 then some (-J 1) else if 255 < x then some (-J 1) else f_JL_indexOfChar_7 k0 (J 4) x.toInt8.toInt32 (J 0) d := by
  have hL : sL k0 = 4 := by rcases h with rfl | rfl <;> decide
  have e1 : Int32.ofNat 4 >>> ((0 : Int32) &&& 31) = J 4 := by decide
  have e2 : mxI 0 0 = J 0 := by decide
  have e3 : mnI (J 4) (Int32.ofNat 4) = J 4 := by decide
  have e4 : ∀ {o : Option Int32}, (ob1 o fun r => some r) = o := fun {o} => by cases o <;> rfl
  unfold f_JS_indexOf1 f_JS_indexOf2 f_JS_isLatin1 f_JS_length f_JS_coder f_JL_indexOf f_JL_canEncode f_JL_indexOfChar
  rw [hL]
  show (ob1 (ob1 (ob1 (if x < 0 then some 0 else if 255 < x then some 0 else some 1) fun r1 => if r1 = 0 then some (-1) else if mxI 0 0 < mnI (Int32.ofNat 4 >>> ((0 : Int32) &&& 31)) (Int32.ofNat 4) then ob1 (f_JL_indexOfChar_7 k0 (mnI (Int32.ofNat 4 >>> ((0 : Int32) &&& 31)) (Int32.ofNat 4)) x.toInt8.toInt32 (mxI 0 0) d) fun r2 => some r2 else some (-1)) fun r4 => some r4) fun r => some r) = _
  rw [e1, e2, e3, e4, e4, e4, if_p (show J 0 < J 4 by decide)]
  by_cases h1 : x < 0
  · rw [if_p h1, if_p h1]
    rfl
  · rw [if_n h1, if_n h1]
    by_cases h2 : 255 < x
    · rw [if_p h2, if_p h2]
      rfl
    · rw [if_n h2, if_n h2]
      rfl
theorem JI {x : Int32} {d1 d2 : Dt} : ∃ r, f_JS_indexOf1 17 x d1 = some r ∧ f_JS_indexOf1 29 x d2 = some r ∧ (r = -J 1 ∨ ∃ k, k < 4 ∧ r = J k) := by
  rw [JIu (Or.inl rfl), JIu (Or.inr rfl)]
  by_cases h1 : x < 0
  · rw [if_p h1, if_p h1]
    exact ⟨_, rfl, rfl, Or.inl rfl⟩
  rw [if_n h1, if_n h1]
  by_cases h2 : 255 < x
  · rw [if_p h2, if_p h2]
    exact ⟨_, rfl, rfl, Or.inl rfl⟩
  rw [if_n h2, if_n h2]
  obtain ⟨r1, a1, a2⟩ := JIc (k0 := 17) (by decide) (c := x.toInt8.toInt32) (d := d1)
  obtain ⟨r2, b1, b2⟩ := JIc (k0 := 29) (by decide) (c := x.toInt8.toInt32) (d := d2)
  have hB : ∀ j, j < 4 → sB 17 j = sB 29 j := by decide
  have e : r1 = r2 := by
    rcases a2 with ⟨p1, p2⟩ | ⟨k, hk, p1, p2, p3⟩
    · rcases b2 with ⟨q1, q2⟩ | ⟨m, hm, q1, q2, q3⟩
      · rw [p1, q1]
      · exact absurd ((hB m hm).trans q2) (p2 m hm)
    · rcases b2 with ⟨q1, q2⟩ | ⟨m, hm, q1, q2, q3⟩
      · exact absurd ((hB k hk).symm.trans p2) (q2 k hk)
      · rcases Nat.lt_trichotomy k m with h | h | h
        · exact absurd ((hB k hk).symm.trans p2) (q3 k h)
        · rw [p1, q1, h]
        · exact absurd ((hB m hm).trans q2) (p3 m h)
  refine ⟨r1, a1, e ▸ b1, ?_⟩
  rcases a2 with ⟨p1, _⟩ | ⟨k, hk, p1, _⟩
  · exact Or.inl p1
  · exact Or.inr ⟨k, hk, p1⟩
theorem P_hearingCount {x : Int32} (h : St D d g us sv e f ln cs om os) : ok (f_W_hearingCount x d) (Pr (fun d => f_M_hearingCount x d) D) := by
  unfold f_W_hearingCount f_C_hearingCount f_C_hearingCount_24
  simp only [J_lit]
  by_cases q : ∃ k, k < 4 ∧ f_JS_indexOf1 17 x d = some (J k)
  · obtain ⟨k, hk, ek⟩ := q
    have e3 : d 26 k = J (g (7 + k)) := h.sim.hd hk
    rw [ek, ob1_s, if_n (J_neg (by omega)), if_p ((J_lt (by omega) (by omega)).mpr hk), J_inb (by omega), gd_d (by omega), J_nat (by omega), e3, ok_ocR, ok_s, Sum.elim_inl, ok_bnd, ok_s]
    refine pr_ans h (fun hp => ?_)
    obtain ⟨r, r1, r2, r3⟩ := JI (x := x) (d1 := d) (d2 := wr d 300 0 (J (g (7 + k))))
    have er : r = J k := Option.some.inj (r1.symm.trans ek)
    unfold f_M_hearingCount f_M_hearingCount_17
    simp only [J_lit]
    have h2 := MO_code hp.1 hp.2.1 0
    rw [r2, er, ob1_s, if_p ((J_le (by omega) (by omega)).mpr (Nat.zero_le _)), M_f0, J_add, J_inb (by omega), gd_d (by omega), J_nat (by omega), h2.2.1.at (by omega), ok_s]
    exact ⟨rfl, h2⟩
  · obtain ⟨r, r1, r2, r3⟩ := JI (x := x) (d1 := d) (d2 := d)
    have er : r = -J 1 := by
      rcases r3 with r3 | ⟨k, hk, r3⟩
      · exact r3
      · exact absurd ⟨k, hk, r3 ▸ r1⟩ q
    rw [r1, er, ob1_s, if_p (show -J 1 < J 0 by decide), ok_ocR, ok_s, Sum.elim_inr]
    show ok (if (2 : Nat) = 2 then some (J 1, d) else none) _
    rw [if_p rfl, ok_s]
    refine pr_fail h (Nat.le_refl D) 1 (by decide) (by decide) (fun hp => ?_)
    unfold f_M_hearingCount f_M_hearingCount_17
    simp only [J_lit]
    rw [r2, er, ob1_s, if_n (show ¬ J 0 ≤ -J 1 by decide), M_f1 (by decide) (by decide), ok_s]
    exact MO_code hp.1 hp.2.1 1
theorem law_hearingCount (h : St D d g us sv e f ln cs om os) (hi : i + 5 ≤ L) (hL : L ≤ 2560) : ok (f_W_law_2263 L xs (J i) d) (fun y => ∃ d', y = .inl (J i + 5, d') ∧ Inv D d') := by
  unfold f_W_law_2263
  simp only [gdx1 hi hL]
  exact tail_i (P := Inv D) (P_hearingCount h)
end ASK3
