/-! 30: the law's cases: undo, restore, save, feed -/
section CASE5
variable {D D' : Nat} {d d1 d2 : Dt} {g g' : Nat → Nat} {us us' : List (Nat → Nat)} {sv : Option (Nat → Nat)} {e f : Int32} {ln : Nat} {cs : Nat → Nat} {om : Nat} {os : Nat → Nat} {L i : Nat} {xs : Nat → Int32} {b : Bool}
theorem pr_chg {M : Dt → Option (Int32 × Dt)} {v : Int32} (h : St D d g us sv e f ln cs om os) (hD : D ≤ D') (hw : WF D' g') (hu : us'.length ≤ 8 ∧ ∀ u ∈ us', WF D' u) (hH : HS d1 us') (hS : Sim d1 2 g') (hf : fX d d1) (hM : MP (wr d1 300 0 v) us g false → ok (M (wr d1 300 0 v)) (fun z => z.1 = v ∧ MO (wr d1 300 0 v) z.2 us' g' 0)) : Pr M D' (J 0, wr d1 300 0 v) := by
  refine ⟨0, by decide, rfl, ok_mono (hM (h.mp hf.w300)) (fun u hm => ⟨hm.2.2.2.1, fun _ => ?_, (h.change hD hw hu (hH.w300 hu.2) (hS.w300 hw.nl (by decide)) hf.w300 hm.2).inv⟩)⟩
  rw [hm.2.2.2.2.1 300 (by decide) (by decide) (by decide), wr_s, hm.1]
theorem dropLast_at {us : List (Nat → Nat)} {n j : Nat} (hn : us.length = n + 1) (hj : j < n) : us.dropLast.getD j zg = us.getD j zg := by
  rw [List.getD_eq_getElem?_getD, List.getD_eq_getElem?_getD, List.getElem?_dropLast, if_p (by omega)]
theorem P_undo (h : St D d g us sv e f ln cs om os) : ok (f_W_undo d) (Pr (fun d => f_M_undo d) D) := by
  obtain ⟨h10, nu, hnu, h9, hs⟩ := h.hs
  have h5 : d 292 5 = J us.length := h.2.2.2.2.2.1.1
  have hl := h.ul
  unfold f_W_undo f_C_undo
  simp only [J_lit]
  by_cases q0 : us.length = 0
  · rw [h10, q0, if_p rfl, ok_ocW, ok_s, Sum.elim_inr]
    show ok (if (0 : Nat) = 0 then some (J 1, d) else none) _
    rw [if_p rfl, ok_s]
    refine pr_fail h (Nat.le_refl D) 1 (by decide) (by decide) (fun hp => ?_)
    unfold f_M_undo f_M_undo_13
    simp only [J_lit]
    rw [h5, q0, if_p rfl, M_f1 (by decide) (by decide), ok_s]
    exact MO_code hp.1 hp.2.1 1
  · obtain ⟨n, hn⟩ : ∃ n, us.length = n + 1 := ⟨us.length - 1, by omega⟩
    have hdl : us.dropLast.length = n := by rw [List.length_dropLast, hn]; rfl
    have hwd : ∀ u ∈ us.dropLast, WF D u := fun u hu => h.uw u ((List.dropLast_sublist us).subset hu)
    have hwn : WF D (us.getD n zg) := h.uw _ (getD_mem (by omega))
    have fin : ∀ v, v = (nu + 7) % 8 → ok (f_C_undo_37 (J v) d) (fun z => Sum.elim (fun r => ok (bnd (wr r.2 300 0 r.1) fun d4 => some (J 0, d4)) (Pr (fun d => f_M_undo d) D)) (fun q => ok (if q.1 = 0 then some (J 1, q.2) else none) (Pr (fun d => f_M_undo d) D)) z) := by
      intro v hv
      unfold f_C_undo_37
      simp only [J_lit]
      rw [ok_bnd, ok_bnd, wr_j (show 9 ≠ 10 by decide), wr_j (show 10 ≠ 9 by decide), wr_s, h10, hn, J_inb (by omega), gd_d (by omega), J_nat (by omega), ok_ob1, J_sub (by omega), Nat.add_sub_cancel]
      have hk : ∀ k, k ≠ 0 → (wr (wr d 0 9 (J v)) 0 10 (J n)) k = d k := fun k hk => by rw [wr_k hk, wr_k hk]
      have hsn : Sim (wr (wr d 0 9 (J v)) 0 10 (J n)) (77 + 25 * v) (us.getD n zg) := by
        have := hs n (by omega)
        rw [show (nu + 8 - us.length + n) % 8 = v by omega] at this
        exact this.same hwn.nl (fun k h1 h2 => hk k (by omega))
      refine ok_mono (S_copyFrom (a := 2) (b := 77 + 25 * v) (by omega) _ (Sim_bt hsn)) (fun d3 h3 => ?_)
      have e10 : d3 0 10 = J n := by rw [h3.2 0 (by omega), wr_s]
      have e9 : d3 0 9 = J v := by rw [h3.2 0 (by omega), wr_j (by decide), wr_s]
      rw [ok_s, Sum.elim_inl, ok_bnd, ok_s, e10]
      have hH : HS d3 us.dropLast := by
        refine ⟨by rw [e10, hdl], v, by omega, e9, fun j hj => ?_⟩
        rw [hdl] at hj ⊢
        rw [dropLast_at hn hj, show (v + 8 - n + j) % 8 = (nu + 8 - us.length + j) % 8 by omega]
        exact (hs j (by omega)).same (h.uw _ (getD_mem (by omega))).nl (fun k h1 h2 => by rw [h3.2 k (by omega), hk k (by omega)])
      have hfx : fX d d3 := ⟨fun k h1 h2 => by rw [h3.2 k (by omega), hk k (by omega)], fun j h1 h2 => by rw [h3.2 0 (by omega), wr_j h2, wr_j h1], fun k h1 h2 => by rw [h3.2 k (by omega), hk k (by omega)]⟩
      refine pr_chg h (Nat.le_refl D) hwn ⟨by omega, hwd⟩ hH (hsn.alike hwn h3.1) hfx (fun hp => ?_)
      unfold f_M_undo f_M_undo_13
      simp only [J_lit]
      have e5 : (wr d3 300 0 (J n)) 292 5 = J (n + 1) := by rw [hp.2.1.1, hn]
      rw [e5, if_n (J_ne (by omega) (by omega) (by decide)), M_f0, ok_bnd, wr_s, wr_j (show 5 ≠ 7 by decide), e5, J_sub (by omega), Nat.add_sub_cancel, J_mul]
      have hcp := M_copies_294_293 (b := 187 * n) (by omega) (wr (wr (wr d3 300 0 (J n)) 292 7 (J 0)) 292 5 (J n))
      rw [show f_M_copies_294_293 (J (187 * n)) (J 0) (wr (wr (wr d3 300 0 (J n)) 292 7 (J 0)) 292 5 (J n)) = _ from hcp, ob1_s, ok_s]
      dsimp only
      refine ⟨by rw [wrf_k (by decide), wr_s], ⟨?_, fun j hj => ?_⟩, fun j hj => ?_, ?_, fun k h1 h2 h3 => ?_, fun j h1 h2 => ?_⟩
      · rw [wrf_k (by decide), wr_s, hdl]
      · rw [hdl] at hj
        rw [dropLast_at hn hj]
        exact rowN_cong (hp.2.1.2 j (by omega)) (by rw [wrf_k (by decide), wr_k (by decide), wr_k (by decide)])
      · rw [wrf_i, if_p (by omega), Nat.zero_add, wr_k (by decide), wr_k (by decide)]
        exact hp.2.1.2 n (by omega) j hj
      · rw [wrf_k (by decide), wr_j (by decide), wr_s]
      · rw [wrf_k h2, wr_k h1, wr_k h1]
      · rw [wrf_k (by decide), wr_j h1, wr_j h2]
    rw [h10, if_n (J_ne q0 (by omega) (by decide)), ok_ocW, h9]
    by_cases q1 : nu = 0
    · rw [if_p (by rw [q1])]
      exact fin 7 (by omega)
    · rw [if_n (J_ne q1 (by omega) (by decide)), J_sub (by omega)]
      exact fin (nu - 1) (by omega)
theorem P_restore (h : St D d g us sv e f ln cs om os) : ok (f_W_restore d) (Pr (fun d => f_M_restore d) D) := by
  obtain ⟨c1, c2⟩ := h.2.2.2.1.2.1
  obtain ⟨m1, m2⟩ := h.2.2.2.2.2.2.1
  have hl := h.ul
  unfold f_W_restore f_C_restore
  simp only [J_lit]
  rw [c1]
  cases sv with
  | none =>
    rw [if_p (show J (if (none : Option (Nat → Nat)).isSome then 1 else 0) = J 0 from rfl), ok_ocW, ok_s, Sum.elim_inr]
    show ok (if (0 : Nat) = 0 then some (J 1, d) else none) _
    rw [if_p rfl, ok_s]
    refine pr_fail h (Nat.le_refl D) 1 (by decide) (by decide) (fun hp => ?_)
    unfold f_M_restore f_M_restore_13
    simp only [J_lit]
    rw [m1, if_p (show J (if (none : Option (Nat → Nat)).isSome then 1 else 0) = J 0 from rfl), M_f1 (by decide) (by decide), ok_s]
    exact MO_code hp.1 hp.2.1 1
  | some s =>
    have hws : WF D s := h.2.1.2.1 s rfl
    have hss : Sim d 52 s := c2 s rfl
    have n1 : ¬ J (if (some s : Option (Nat → Nat)).isSome then 1 else 0) = J 0 := n10
    rw [if_n n1, ok_ocW, ok_ob1]
    refine ok_mono (S_copyFrom (a := 2) (b := 52) (by omega) _ (Sim_bt hss)) (fun d3 h3 => ?_)
    have hS3 := hss.alike hws h3.1
    have e3 : d3 3 0 = J (s 0) := hS3.nl
    rw [ok_bnd, ok_s, Sum.elim_inl, ok_bnd, ok_s, wr_k (by decide), e3]
    have hS4 : Sim (wr d3 0 10 (J 0)) 2 s := hS3.same hws.nl (fun k h1 h2 => wr_k (by omega))
    obtain ⟨h10, nu, hnu, h9, hs⟩ := h.hs
    have hH : HS (wr d3 0 10 (J 0)) [] := ⟨wr_s, nu, hnu, by rw [wr_j (by decide), h3.2 0 (by omega)]; exact h9, fun j hj => absurd hj (Nat.not_lt_zero j)⟩
    have hfx : fX d (wr d3 0 10 (J 0)) := ⟨fun k h1 h2 => by rw [wr_k (by omega), h3.2 k (by omega)], fun j h1 h2 => by rw [wr_j h2, h3.2 0 (by omega)], fun k h1 h2 => by rw [wr_k (by omega), h3.2 k (by omega)]⟩
    refine pr_chg h (Nat.le_refl D) hws ⟨by decide, fun u hu => absurd hu (by intro t; cases t)⟩ hH hS4 hfx (fun hp => ?_)
    unfold f_M_restore f_M_restore_13
    simp only [J_lit]
    have m3 : (wr (wr d3 0 10 (J 0)) 300 0 (J (s 0))) 292 4 = J (if (some s : Option (Nat → Nat)).isSome then 1 else 0) := by rw [wr_k (by decide), wr_k (by decide), h3.2 292 (by omega)]; exact m1
    have m4 : rowN (wr (wr d3 0 10 (J 0)) 300 0 (J (s 0))) 295 0 s := rowN_cong (m2 s rfl) (by rw [wr_k (by decide), wr_k (by decide), h3.2 295 (by omega)])
    rw [m3, if_n n1, M_f0]
    have hcp := M_copies_295_293 (wr (wr (wr d3 0 10 (J 0)) 300 0 (J (s 0))) 292 7 (J 0))
    rw [show f_M_copies_295_293 (J 0) (J 0) (wr (wr (wr d3 0 10 (J 0)) 300 0 (J (s 0))) 292 7 (J 0)) = _ from hcp, ob1_s, ok_bnd, ok_s]
    have hr : rowN (wr (wrf (wr (wr (wr d3 0 10 (J 0)) 300 0 (J (s 0))) 292 7 (J 0)) 293 (fun q => if q < 187 then (wr (wr (wr d3 0 10 (J 0)) 300 0 (J (s 0))) 292 7 (J 0)) 295 q else (wr (wr (wr d3 0 10 (J 0)) 300 0 (J (s 0))) 292 7 (J 0)) 293 q)) 292 5 (J 0)) 293 0 s := by
      intro j hj
      rw [wr_k (by decide), wrf_i, Nat.zero_add, if_p hj, wr_k (by decide)]
      have := m4 j hj
      rwa [Nat.zero_add] at this
    dsimp only
    refine ⟨hr.at (j := 0) (by decide), ⟨?_, fun j hj => absurd hj (Nat.not_lt_zero j)⟩, hr, ?_, fun k h1 h2 h3 => ?_, fun j h1 h2 => ?_⟩
    · rw [wr_s]
      rfl
    · rw [wr_j (by decide), wrf_k (by decide), wr_s]
    · rw [wr_k h1, wrf_k h2, wr_k h1]
    · rw [wr_j h1, wrf_k (by decide), wr_j h2]
theorem law_undo (h : St D d g us sv e f ln cs om os) : ok (f_W_law_2819 L xs (J i) d) (fun y => ∃ d', y = .inl (J i + 5, d') ∧ Inv D d') :=
  tail_i (P := Inv D) (P_undo h)
theorem law_restore (h : St D d g us sv e f ln cs om os) : ok (f_W_law_2876 L xs (J i) d) (fun y => ∃ d', y = .inl (J i + 5, d') ∧ Inv D d') :=
  tail_i (P := Inv D) (P_restore h)
/-- the state is laid down -/
theorem law_save (h : St D d g us sv e f ln cs om os) : ok (f_W_law_2863 L xs (J i) d) (fun y => ∃ d', y = .inl (J i + 5, d') ∧ Inv D d') := by
  have hw := h.wf
  have hS := h.sim
  unfold f_W_law_2863 f_C_save
  simp only [ok_ob2, ok_ob1]
  refine ok_mono (S_copyFrom (a := 52) (b := 2) (by omega) _ (Sim_bt hS)) (fun d3 h3 => ?_)
  rw [ok_bnd, ok_s]
  dsimp only
  have e3 : d3 3 0 = J (g 0) := by rw [h3.2 3 (by omega)]; exact hS.nl
  have hk : ∀ k, k ≠ 0 → (k < 52 ∨ 77 ≤ k) → (wr d3 0 11 1) k = d k := fun k h1 h2 => by rw [wr_k h1, h3.2 k (by omega)]
  have h0 : ∀ j, j ≠ 11 → (wr d3 0 11 1) 0 j = d 0 j := fun j hj => by rw [wr_j hj, h3.2 0 (by omega)]
  have hs52 : Sim (wr d3 0 11 1) 52 g := (hS.alike hw h3.1).same hw.nl (fun k h1 h2 => wr_k (by omega))
  have hs11 : (wr d3 0 11 1) 0 11 = J 1 := wr_s
  rw [wr_k (by decide), e3]
  generalize hd1 : wr d3 0 11 1 = d1 at hk h0 hs52 hs11 ⊢
  unfold f_M_save
  rw [ok_bnd, ok_bnd]
  have hcp := M_copies_293_295 (wr (wr d1 292 7 0) 292 4 1)
  rw [hcp, ob1_s, ok_s]
  dsimp only
  have hr : rowN d1 293 0 g := rowN_cong h.row (hk 293 (by decide) (by omega))
  have hr2 : ∀ j, j < 187 → (wr (wr d1 292 7 0) 292 4 1) 293 j = J (g j) := fun j hj => by rw [wr_k (by decide), wr_k (by decide)]; exact hr.at hj
  have e5 : (wrf (wr (wr d1 292 7 0) 292 4 1) 295 (fun q => if q < 187 then (wr (wr d1 292 7 0) 292 4 1) 293 q else (wr (wr d1 292 7 0) 292 4 1) 295 q)) 293 0 = J (g 0) := by rw [wrf_k (by decide)]; exact hr2 0 (by decide)
  rw [e5, if_p rfl, ok_s]
  refine ⟨_, rfl, g, us, some g, e, f, ln, cs, om, os, hw, ?_, ?_, ?_, ?_, ?_⟩
  · exact ⟨h.2.1.1, fun s hs => by cases hs; exact hw, h.2.1.2.2⟩
  · exact hS.same hw.nl (fun k h1 h2 => by rw [wrf_k (by omega), wr_k (by omega), wr_k (by omega)]; exact hk k (by omega) (by omega))
  · obtain ⟨⟨a1, nu, a2, a3, a4⟩, b1, b2, b3, b4, b5, b6⟩ := h.2.2.2.1
    have q : ∀ k, k < 292 → (wrf (wr (wr d1 292 7 0) 292 4 1) 295 (fun q => if q < 187 then (wr (wr d1 292 7 0) 292 4 1) 293 q else (wr (wr d1 292 7 0) 292 4 1) 295 q)) k = d1 k := fun k hk => by rw [wrf_k (by omega), wr_k (by omega), wr_k (by omega)]
    refine ⟨⟨?_, nu, a2, ?_, fun j hj => ?_⟩, ⟨?_, fun s hs => ?_⟩, ?_, ?_, ?_, ?_, ?_⟩
    · rw [q 0 (by decide), h0 10 (by decide)]; exact a1
    · rw [q 0 (by decide), h0 9 (by decide)]; exact a3
    · exact (a4 j hj).same (h.uw _ (getD_mem hj)).nl (fun k h1 h2 => by rw [q k (by omega)]; exact hk k (by omega) (by omega))
    · rw [q 0 (by decide)]; exact hs11
    · cases hs
      exact hs52.same hw.nl (fun k h1 h2 => q k (by omega))
    · rw [q 0 (by decide), h0 12 (by decide)]; exact b2
    · rw [q 0 (by decide), h0 13 (by decide)]; exact b3
    · rw [q 287 (by decide), q 288 (by decide), hk 287 (by decide) (by omega), hk 288 (by decide) (by omega)]; exact b4
    · rw [q 290 (by decide), q 291 (by decide), hk 290 (by decide) (by omega), hk 291 (by decide) (by omega)]; exact b5
    · rw [q 287 (by decide), hk 287 (by decide) (by omega)]; exact b6
  · intro j hj
    rw [wrf_k (by decide), Nat.zero_add]
    exact hr2 j hj
  · obtain ⟨⟨a1, a2⟩, b1, b2, b3, b4, b5, b6⟩ := h.2.2.2.2.2
    have q : ∀ j, j ≠ 7 → j ≠ 4 → (wrf (wr (wr d1 292 7 0) 292 4 1) 295 (fun q => if q < 187 then (wr (wr d1 292 7 0) 292 4 1) 293 q else (wr (wr d1 292 7 0) 292 4 1) 295 q)) 292 j = d 292 j := fun j h1 h2 => by rw [wrf_k (by decide), wr_j h2, wr_j h1, hk 292 (by decide) (by omega)]
    have q2 : ∀ k, k ≠ 292 → k ≠ 295 → 77 ≤ k → (wrf (wr (wr d1 292 7 0) 292 4 1) 295 (fun q => if q < 187 then (wr (wr d1 292 7 0) 292 4 1) 293 q else (wr (wr d1 292 7 0) 292 4 1) 295 q)) k = d k := fun k h1 h2 h3 => by rw [wrf_k h2, wr_k h1, wr_k h1, hk k (by omega) (by omega)]
    refine ⟨⟨?_, fun j hj => ?_⟩, ⟨?_, fun s hs => ?_⟩, ?_, ?_, ?_, ?_, ?_⟩
    · rw [q 5 (by decide) (by decide)]; exact a1
    · exact rowN_cong (a2 j hj) (q2 294 (by decide) (by decide) (by decide))
    · rw [wrf_k (by decide), wr_s]
      rfl
    · cases hs
      intro j hj
      rw [wrf_i, Nat.zero_add, if_p hj]
      exact hr2 j hj
    · rw [q 10 (by decide) (by decide)]; exact b2
    · rw [q 11 (by decide) (by decide)]; exact b3
    · rw [q 9 (by decide) (by decide), q2 297 (by decide) (by decide) (by decide)]; exact b4
    · rw [q 13 (by decide) (by decide), q2 298 (by decide) (by decide) (by decide)]; exact b5
    · rw [q 6 (by decide) (by decide)]; exact b6
/-- a character of the law -/
theorem chr_J (x : Int32) : ∃ c, c < 65536 ∧ (x.toUInt32 % 65536).toInt32 = J c := by
  refine ⟨(x.toUInt32 % 65536).toNat, ?_, ?_⟩
  · rw [UInt32.toNat_mod]
    exact Nat.mod_lt _ (by decide)
  · apply Int32.toBitVec_inj.mp
    apply BitVec.eq_of_toNat_eq
    show (x.toUInt32 % 65536).toBitVec.toNat = (BitVec.ofNat 32 (x.toUInt32 % 65536).toNat).toNat
    rw [BitVec.toNat_ofNat, Nat.mod_eq_of_lt (UInt32.toNat_lt _)]
    rfl
theorem P_feed {c : Nat} (hc : c < 65536) (h : St D d g us sv e f ln cs om os) : ok (f_W_feed (J c) d) (Pr (fun d => f_M_feed (J c) d) D) := by
  have hw := h.wf
  have e1 : d 287 1 = J ln := h.2.2.2.1.2.2.2.2.1.1
  have e2 : d 292 9 = J ln := h.2.2.2.2.2.2.2.2.2.1.1
  obtain ⟨l1, l2⟩ := h.2.1.2.2.2.2.1
  unfold f_W_feed f_C_feed f_I_isFull f_I_append
  simp only [J_lit]
  rw [e1]
  by_cases q : ln < 60
  · rw [if_p ((J_lt (by omega) (by omega)).mpr q), ob1_s, if_p rfl, ok_ocW, ok_ob2, J_inb (by omega), gd_d q, gd_t1 (nar_ch hc), J_nat (by omega), ok_bnd, ok_bnd, ok_s, ok_s, Sum.elim_inl, ok_bnd, ok_s, wr_k (show 287 ≠ 288 by decide), e1, J_add, wr_s]
    dsimp only
    have hk : ∀ k, k ≠ 287 → k ≠ 288 → k ≠ 300 → (wr (wr (wr d 288 ln (J c)) 287 1 (J (ln + 1))) 300 0 (J (ln + 1))) k = d k := fun k h1 h2 h3 => by rw [wr_k h3, wr_k h1, wr_k h2]
    have h87 : ∀ j, j ≠ 1 → (wr (wr (wr d 288 ln (J c)) 287 1 (J (ln + 1))) 300 0 (J (ln + 1))) 287 j = d 287 j := fun j hj => by rw [wr_k (by decide), wr_j hj, wr_k (by decide)]
    have h871 : (wr (wr (wr d 288 ln (J c)) 287 1 (J (ln + 1))) 300 0 (J (ln + 1))) 287 1 = J (ln + 1) := by rw [wr_k (by decide), wr_s]
    have h88 : ∀ j, (wr (wr (wr d 288 ln (J c)) 287 1 (J (ln + 1))) 300 0 (J (ln + 1))) 288 j = if j = ln then J c else d 288 j := fun j => by rw [wr_k (by decide), wr_k (by decide), wr_i]
    have h300 : (wr (wr (wr d 288 ln (J c)) 287 1 (J (ln + 1))) 300 0 (J (ln + 1))) 300 0 = J (ln + 1) := wr_s
    generalize wr (wr (wr d 288 ln (J c)) 287 1 (J (ln + 1))) 300 0 (J (ln + 1)) = d1 at hk h87 h871 h88 h300 ⊢
    refine ⟨0, by decide, rfl, ?_⟩
    unfold f_M_feed f_M_feed_15
    simp only [J_lit]
    rw [hk 292 (by decide) (by decide) (by decide), e2, if_n (J_ne (by omega) (by omega) (by decide)), M_f0, wr_j (show 9 ≠ 7 by decide), hk 292 (by decide) (by decide) (by decide), e2, J_inb (by omega), gd_d q, J_nat (by omega), ok_bnd, ok_bnd, ok_s, wr_s, wr_k (show 292 ≠ 297 by decide), wr_j (show 9 ≠ 7 by decide), hk 292 (by decide) (by decide) (by decide), e2, J_add]
    dsimp only
    have q1 : ∀ k, k ≠ 292 → k ≠ 297 → (wr (wr (wr d1 292 7 (J 0)) 297 ln (J c)) 292 9 (J (ln + 1))) k = d1 k := fun k h1 h2 => by rw [wr_k h1, wr_k h2, wr_k h1]
    have q2 : ∀ j, j ≠ 7 → j ≠ 9 → (wr (wr (wr d1 292 7 (J 0)) 297 ln (J c)) 292 9 (J (ln + 1))) 292 j = d 292 j := fun j h1 h2 => by rw [wr_j h2, wr_k (by decide), wr_j h1, hk 292 (by decide) (by decide) (by decide)]
    have q3 : (wr (wr (wr d1 292 7 (J 0)) 297 ln (J c)) 292 9 (J (ln + 1))) 292 7 = J 0 := by rw [wr_j (by decide), wr_k (by decide), wr_s]
    have q4 : (wr (wr (wr d1 292 7 (J 0)) 297 ln (J c)) 292 9 (J (ln + 1))) 292 9 = J (ln + 1) := wr_s
    have q5 : ∀ j, (wr (wr (wr d1 292 7 (J 0)) 297 ln (J c)) 292 9 (J (ln + 1))) 297 j = if j = ln then J c else d 297 j := fun j => by rw [wr_k (by decide), wr_i, wr_k (by decide), hk 297 (by decide) (by decide) (by decide)]
    generalize wr (wr (wr d1 292 7 (J 0)) 297 ln (J c)) 292 9 (J (ln + 1)) = d2 at q1 q2 q3 q4 q5 ⊢
    have q6 : ∀ k, k ≠ 292 → k ≠ 297 → k ≠ 287 → k ≠ 288 → k ≠ 300 → d2 k = d k := fun k h1 h2 h3 h4 h5 => (q1 k h1 h2).trans (hk k h3 h4 h5)
    refine ⟨q3, fun _ => ?_, g, us, sv, e, f, ln + 1, (fun j => if j = ln then c else cs j), om, os, hw, ?_, ?_, ?_, ?_, ?_⟩
    · rw [q1 300 (by decide) (by decide)]; exact h300
    · obtain ⟨a1, a2, a3, a4, a5, a6⟩ := h.2.1
      refine ⟨a1, a2, a3, a4, ⟨by omega, fun j hj => ?_⟩, a6⟩
      dsimp only
      by_cases hjl : j = ln
      · rw [if_p hjl]; exact hc
      · rw [if_n hjl]; exact a5.2 j (by omega)
    · exact h.sim.same hw.nl (fun k h1 h2 => q6 k (by omega) (by omega) (by omega) (by omega) (by omega))
    · obtain ⟨⟨a1, nu, a2, a3, a4⟩, ⟨b0, b1⟩, b2, b3, b4, b5, kd, b6, b7⟩ := h.2.2.2.1
      have q0 := q6 0 (by decide) (by decide) (by decide) (by decide) (by decide)
      refine ⟨⟨?_, nu, a2, ?_, fun j hj => ?_⟩, ⟨?_, fun s hs => ?_⟩, ?_, ?_, ⟨?_, fun j hj => ?_⟩, ?_, kd, b6, ?_⟩
      · rw [q0]; exact a1
      · rw [q0]; exact a3
      · exact (a4 j hj).same (h.uw _ (getD_mem hj)).nl (fun k h1 h2 => q6 k (by omega) (by omega) (by omega) (by omega) (by omega))
      · rw [q0]; exact b0
      · exact (b1 s hs).same (h.2.1.2.1 s hs).nl (fun k h1 h2 => q6 k (by omega) (by omega) (by omega) (by omega) (by omega))
      · rw [q0]; exact b2
      · rw [q0]; exact b3
      · rw [q1 287 (by decide) (by decide)]; exact h871
      · rw [q1 288 (by decide) (by decide), h88]
        dsimp only
        by_cases hjl : j = ln
        · rw [if_p hjl, if_p hjl]
        · rw [if_n hjl, if_n hjl]; exact b4.2 j (by omega)
      · rw [q6 290 (by decide) (by decide) (by decide) (by decide) (by decide), q6 291 (by decide) (by decide) (by decide) (by decide) (by decide)]; exact b5
      · rw [q1 287 (by decide) (by decide), h87 3 (by decide)]; exact b7
    · exact rowN_cong h.row (q6 293 (by decide) (by decide) (by decide) (by decide) (by decide))
    · obtain ⟨⟨a1, a2⟩, ⟨b0, b1⟩, b2, b3, b4, b5, b6⟩ := h.2.2.2.2.2
      refine ⟨⟨?_, fun j hj => ?_⟩, ⟨?_, fun s hs => ?_⟩, ?_, ?_, ⟨q4, fun j hj => ?_⟩, ?_, ?_⟩
      · rw [q2 5 (by decide) (by decide)]; exact a1
      · exact rowN_cong (a2 j hj) (q6 294 (by decide) (by decide) (by decide) (by decide) (by decide))
      · rw [q2 4 (by decide) (by decide)]; exact b0
      · exact rowN_cong (b1 s hs) (q6 295 (by decide) (by decide) (by decide) (by decide) (by decide))
      · rw [q2 10 (by decide) (by decide)]; exact b2
      · rw [q2 11 (by decide) (by decide)]; exact b3
      · rw [q5]
        dsimp only
        by_cases hjl : j = ln
        · rw [if_p hjl, if_p hjl]
        · rw [if_n hjl, if_n hjl]; exact b4.2 j (by omega)
      · rw [q2 13 (by decide) (by decide), q6 298 (by decide) (by decide) (by decide) (by decide) (by decide)]; exact b5
      · rw [q2 6 (by decide) (by decide)]; exact b6
  · rw [if_n (fun t => q ((J_lt (by omega) (by omega)).mp t)), ob1_s, if_n n10, ok_ocW, ok_s, Sum.elim_inr]
    show ok (if (0 : Nat) = 0 then some (J 1, d) else none) _
    rw [if_p rfl, ok_s]
    refine pr_fail h (Nat.le_refl D) 1 (by decide) (by decide) (fun hp => ?_)
    unfold f_M_feed f_M_feed_15
    simp only [J_lit]
    rw [e2, if_p (by rw [show ln = 60 by omega]), M_f1 (by decide) (by decide), ok_s]
    exact MO_code hp.1 hp.2.1 1
theorem law_feed (h : St D d g us sv e f ln cs om os) (hi : i + 5 ≤ L) (hL : L ≤ 2560) : ok (f_W_law_2491 L xs (J i) d) (fun y => ∃ d', y = .inl (J i + 5, d') ∧ Inv D d') := by
  unfold f_W_law_2491
  simp only [gdx1 hi hL]
  obtain ⟨c, hc, ec⟩ := chr_J (xs (J i + 1).toNatClampNeg)
  rw [ec]
  exact tail_i (P := Inv D) (P_feed hc h)
end CASE5
