/-! 09zf: the law's body, out of its pure function -/
set_option maxHeartbeats 4000000 in
theorem whole_start_of (PURE : ∀ (L : Nat) (xs : Nat → Int32), L ≤ 2560 → ∃ dE : Dt, f_W_law L xs d0W = some (1, dE)) {p : Program} {e : Env} {s : State} {m : MethodId} {below : List Frame} {meth : Method} {c : Code} (l : Launch) (hflags : l.flags = flags0) {b L : Nat} {xs : Nat → Int32} (hL : L ≤ 2560) (C0 : lw_At p s m meth c b L xs) : W p l e room_1 s m #[Value.ref b] below meth c s.heap [] 0 0 (lw_Z below #[Value.ref b] s) (entryFrame m ([Value.ref b] : List Value).toArray 9) := by
  obtain ⟨w, hwB, hK, hkw, har⟩ := exW C0
  obtain ⟨hx, hb, hr, hml, hown, hts, hX, hbl, hlocks, hgv⟩ := id C0
  obtain ⟨dE, hpure⟩ := PURE L xs hL
  have hl9 : l.stackTraces = false := by
    unfold Launch.stackTraces
    rw [hflags]
    rfl
  have hAr : room_1 = ({ frames := 2048, cells := 603072, slots := 7194730, locals := 94400 } : Room) := rfl
  refine W_room (R' := gRmX 2048 603072 7194730) (by rw [hAr]; exact Nat.le_refl _) (by rw [hAr]; exact Nat.le_of_ble_eq_true rfl) (by rw [hAr]; exact Nat.le_refl _) (by rw [hAr]; exact Nat.le_refl _) ?_
  have hA : ∀ q, s.heap.size ≤ q → A_W w q := fun q h => by show w_B w ≤ q; rw [hwB]; exact h
  have hbA : ¬ A_W w b := fun h => by
    have h' : w_B w ≤ b := h
    rw [hwB] at h'
    omega
  have C : gCk w p s m #[Value.ref b] c cL_law 9 RL := ⟨hx, hb, hml, hown, fun x hx => hts x (wAll_tbl hx), hK, Nat.le_of_eq hwB, hkw, har⟩
  have hE : ∀ (w' : wT), w_B w' = s.heap.size → ∀ (d : Dt) (lv : List (Nat × Value)), gG w' p l e (gRmX 2048 603072 7194730) s m #[Value.ref b] below meth c 9 603072 7194730 (lw_Z below #[Value.ref b] s) d lv 2927 [.int 1] := by
    intro w' hw' d lv H locs ls hl hP hS
    refine va_forget (fun q hq => ?_) ?_
    · have h9 : w_B w' ≤ q.base := hS.2.2 q hq
      rw [hw'] at h9
      exact h9
    · exact W.base (lw_retR (Drawn.sameBut.refl s.drawn lw_cs) hx hb hr hlocks dL_law_2927)
  have hl := lv_entry [.ref b] (n := 9) (Nat.le_of_ble_eq_true rfl)
  rw [lg_entry_eq]
  have hD0 : va_D (A_W w) [] := ⟨fun i j p q h => by simp at h, fun k q h => by simp at h⟩
  have hP0 : va_P (w_G w) vwQ [] s.heap := fun k q h => by simp at h
  refine law_make C hA rfl (fun h hM qo qd u uM hu huM => ?_) s.heap [] _ hl hP0 hD0 va_S.rf
  obtain ⟨hh, q1, q2, q3, qP, qG, qR, qI, qO, qs, h8, rfl⟩ := hu
  obtain ⟨qM, rfl, rfl⟩ := huM
  intro H locs ls hlv hP hD hS
  have hPw := world_P (w := w) (h := h) (hh := hh) (q1 := q1) (q2 := q2) (q3 := q3) (qP := qP) (qG := qG) (qR := qR) (qI := qI) (qO := qO) (qM := qM) (qs := qs) (qo := qo) (qd := qd) h8 hP
  have hok := world_ok (w := w) (h := h) (hh := hh) (q1 := q1) (q2 := q2) (q3 := q3) (qP := qP) (qG := qG) (qR := qR) (qI := qI) (qO := qO) (qM := qM) (qs := qs) (qo := qo) (qd := qd) h8 hD
  generalize hw2 : ((wrA h hh q1 q2 q3 qP qG qR qI qO qM qs qo qd, w.2) : wT) = w2 at hPw hok
  have e0 : w_r w2 0 = h := by rw [← hw2]; rfl
  have e1 : w_r w2 292 = qM 0 := by rw [← hw2]; rfl
  have e2 : w_r w2 300 = qo := by rw [← hw2]; rfl
  have e3 : w_r w2 301 = qd := by rw [← hw2]; rfl
  have eB : w_B w2 = s.heap.size := by rw [← hw2]; exact hwB
  have C2 : gC w2 p s m #[Value.ref b] c cL_law 9 RL := by
    refine ⟨hx, hb, hml, hown, C.2.2.2.2.1, ?_, hok, Nat.le_of_eq eB, ?_⟩
    · rw [← hw2]; exact hK
    · rw [← hw2]; exact hkw
  have hbA2 : ¬ A_W w2 b := by rw [← hw2]; exact hbA
  have hS2 : va_S (A_W w2) s.heap H locs := by rw [← hw2]; exact hS
  have hG2 : w_G w = w_G w2 := by rw [← hw2]; rfl
  rw [hG2] at hPw
  have hlv2 : lv_has ls 9 [(4, .ref (w_r w2 301)), (3, .ref (w_r w2 300)), (2, .ref (w_r w2 292)), (1, .ref (w_r w2 0)), (0, .ref b)] := by
    rw [e0, e1, e2, e3]
    exact hlv
  have hgo : gG w2 p l e (gRmX 2048 603072 7194730) s m #[Value.ref b] below meth c 9 302 4972 (lw_Z below #[Value.ref b] s) d0W [(4, .ref (w_r w2 301)), (3, .ref (w_r w2 300)), (2, .ref (w_r w2 292)), (1, .ref (w_r w2 0)), (0, .ref b)] 25 [] := by
    refine g_iconst C2 dL_law_25 (v := 0) rfl ?_
    refine g_istore C2 (lv' := [(5, .int 0), (4, .ref (w_r w2 301)), (3, .ref (w_r w2 300)), (2, .ref (w_r w2 292)), (1, .ref (w_r w2 0)), (0, .ref b)]) dL_law_26 (by decide) rfl ?_
    refine g_sub [5, 4, 3, 2, 1, 0] (lv' := [(0, .ref b), (1, .ref (w_r w2 0)), (2, .ref (w_r w2 292)), (3, .ref (w_r w2 300)), (4, .ref (w_r w2 301)), (5, .int 0)]) rfl ?_
    exact law_loop C2 hl9 hX hbA2 rfl (hE w2 eB) fu 0 d0W 302 4972 hpure (by decide) (by decide)
  exact hgo H locs ls hlv2 hPw hS2
