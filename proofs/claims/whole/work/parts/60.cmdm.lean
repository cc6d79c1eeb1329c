/-! 60: the reference reads a command: all kinds -/
section CMDM
variable {d d' d1 d2 : Dt} {N : Nat} {t : Nat → Nat} {p q n k m c c' i j x a s : Nat}
def MC (N : Nat) (t : Nat → Nat) (m : Nat) (d : Dt) (p : Nat) (z : Int32 × Dt) : Prop := z.1 = J (if (cmdR N t p).1 = true then 1 else 0) ∧ z.2 292 14 = J (cmdR N t p).2.1 ∧ ((cmdR N t p).1 = true → (∀ j, j < (cmdR N t p).2.2.1 → z.2 299 (5 * m + 1 + j) = J ((cmdR N t p).2.2.2.1 j)) ∧ ((cmdR N t p).2.2.2.2 = 2 ∨ z.2 299 (5 * m + 1 + (cmdR N t p).2.2.1) = J (cmdR N t p).2.2.2.2) ∧ z.2 299 (5 * m) = J (kd N t p)) ∧ frT m d z.2
theorem wd_all : (∀ x ∈ ([(30, 0, 1), (37, 1, 1), (31, 2, 1), (32, 3, 1), (33, 4, 1), (34, 5, 1), (36, 6, 2), (35, 7, 1)] : List (Nat × Nat × Nat)), f_JS_length x.1 (fun _ _ => 0) = some (J (KL x.2.1 - x.2.2)) ∧ ∀ j, j < KL x.2.1 - x.2.2 → f_JS_charAt x.1 (J j) (fun _ _ => 0) = some (J (KW x.2.1 (x.2.2 + j)))) := by decide +kernel
theorem M_wf {k2 : Nat} {K : Dt → Option (Int32 × Dt)} (hd : frT m d d2) (hT : TM d2 N t) (hTT : TT N t) (h14 : d2 292 14 = J (p + s)) (hp : p ≤ N) (hlk : lk N t i p s = s) (hkd : kd N t p = i) (hw : (k2, i, s) ∈ ([(30, 0, 1), (37, 1, 1), (31, 2, 1), (32, 3, 1), (33, 4, 1), (34, 5, 1), (36, 6, 2), (35, 7, 1)] : List (Nat × Nat × Nat))) (hi : i < 8) (hs : s < KL i) (h16 : d2 292 16 = J m) (hm : m < 30) (hK : ∀ d18, MI d18 N t m (st0 (p + KL i)) → p + KL i ≤ N → ok (K d18) (fun z => z.1 = J (if (foR N t i (p + KL i)).1 = true then 1 else 0) ∧ MI z.2 N t m (foR N t i (p + KL i)) ∧ frU m d18 z.2)) : ok (ob2 (f_M_isWord k2 (J i) d2) fun r d' => if r = J 0 then some (J 0, d') else K d') (MC N t m d p) := by
  have hwd := wd_all _ hw
  rw [ok_ob2]
  refine ok_mono (M_word (k2 := k2) hT hTT h14 hp hi hs hlk (fun _ => hwd.1) (fun j _ hj => hwd.2 j hj) h16 hm) (fun z hz => ?_)
  obtain ⟨z1, z2, z3, z4⟩ := hz
  have f18 := hd.trans z3
  by_cases u : lk N t i p (KL i) = KL i
  · have ho : kwO N t p = true := by
      unfold kwO
      rw [hkd, decide_eq_true hi, decide_eq_true u]
      rfl
    have hP : kwP N t p = p + KL i := by
      unfold kwP
      rw [hkd, if_p hi, u]
    have hR : cmdR N t p = foR N t i (p + KL i) := by
      unfold cmdR
      rw [if_p ho, hkd, hP]
    rw [u] at z2
    rw [z1, if_p u, if_n n10]
    refine ok_mono (hK z.2 ⟨z3.tm hT, z2, fun j hj => absurd hj (Nat.not_lt_zero j), Or.inl rfl⟩ (lk_full _ u hp)) (fun y hy => ?_)
    obtain ⟨y1, y2, y3⟩ := hy
    unfold MC
    rw [hR]
    refine ⟨y1, y2.2.1, fun _ => ⟨y2.2.2.1, y2.2.2.2, ?_⟩, f18.trans y3.frT⟩
    rw [y3.2.2 _ (by omega), z4, hkd]
  · have ho : ¬ kwO N t p = true := fun v => by
      unfold kwO at v
      rw [Bool.and_eq_true, decide_eq_true_iff, decide_eq_true_iff, hkd] at v
      exact u v.2
    have hR : cmdR N t p = (false, p + lk N t i p (KL i), 0, (fun _ => 1), 2) := by
      unfold cmdR kwP
      rw [if_n ho, hkd, if_p hi]
    rw [z1, if_n u, if_p rfl, ok_s]
    unfold MC
    rw [hR]
    exact ⟨rfl, z2, fun v => (by cases v), f18⟩
theorem F_1 (hTT : TT N t) (h : MI d N t m (st0 q)) (hq : q ≤ N) (hm : m < 30) (hn : 1 ≤ n) (hn9 : n ≤ 9) : ok (ob2 (f_M_figures (J (5 * m + 1)) (J n) d) fun r d' => if r = J 0 then some (J 0, d') else some (J 1, d')) (fun z => z.1 = J (if (sN N t n (sS N t (st0 q))).1 = true then 1 else 0) ∧ MI z.2 N t m (sN N t n (sS N t (st0 q))) ∧ frU m d z.2) :=
  M_seq (M_fig hTT h rfl hq (show 0 < 4 by decide) rfl hm rfl hn hn9) frU.refl (fun _ => rfl) (fun h1 _ h2 h3 => M_done h1 h2 h3)
theorem F_file (hTT : TT N t) (h : MI d N t m (st0 q)) (hq : q ≤ N) (hm : m < 30) : ok (ob2 (f_M_figures (J (5 * m + 1)) (J 1) d) fun r19 d20 => if r19 = J 0 then some (J 0, d20) else ob2 (f_M_figures (J (5 * m + 1 + 1)) (J 2) d20) fun r21 d22 => if r21 = J 0 then some (J 0, d22) else ob2 (f_M_figures (J (5 * m + 1 + 2)) (J 2) d22) fun r23 d24 => if r23 = J 0 then some (J 0, d24) else ob2 (f_M_figures (J (5 * m + 1 + 3)) (J 1) d24) fun r25 d26 => if r25 = J 0 then some (J 0, d26) else some (J 1, d26)) (fun z => z.1 = J (if (foR N t 1 q).1 = true then 1 else 0) ∧ MI z.2 N t m (foR N t 1 q) ∧ frU m d z.2) := by
  have eR : foR N t 1 q = sN N t 1 (sS N t (sN N t 2 (sS N t (sN N t 2 (sS N t (sN N t 1 (sS N t (st0 q)))))))) := rfl
  rw [eR]
  have l1 : (sN N t 1 (sS N t (st0 q))).2.1 ≤ N := sN_le (sS_le hq)
  refine M_seq (M_fig hTT h rfl hq (show 0 < 4 by decide) rfl hm rfl (by decide) (by decide)) frU.refl (fun h => by simp only [sS_f h, sN_f h]) (fun h1 d2 m2 f2 => ?_)
  have c1 := sNS_c (show (st0 q).1 = true from rfl) h1
  generalize sN N t 1 (sS N t (st0 q)) = x1 at l1 h1 m2 c1 ⊢
  have k1 : x1.2.2.1 = 1 := c1.1
  have b1 : x1.2.2.2.2 = 2 := c1.2
  have l2 : (sN N t 2 (sS N t x1)).2.1 ≤ N := sN_le (sS_le l1)
  refine M_seq (M_fig hTT m2 h1 l1 (by omega) (by omega) hm b1 (by decide) (by decide)) f2 (fun h => by simp only [sS_f h, sN_f h]) (fun h2 d3 m3 f3 => ?_)
  have c2 := sNS_c h1 h2
  generalize sN N t 2 (sS N t x1) = x2 at l2 h2 m3 c2 ⊢
  have l3 : (sN N t 2 (sS N t x2)).2.1 ≤ N := sN_le (sS_le l2)
  refine M_seq (M_fig hTT m3 h2 l2 (by omega) (by omega) hm (c2.2.trans b1) (by decide) (by decide)) f3 (fun h => by simp only [sS_f h, sN_f h]) (fun h3 d4 m4 f4 => ?_)
  have c3 := sNS_c h2 h3
  generalize sN N t 2 (sS N t x2) = x3 at l3 h3 m4 c3 ⊢
  exact M_seq (M_fig hTT m4 h3 l3 (by omega) (by omega) hm (c3.2.trans (c2.2.trans b1)) (by decide) (by decide)) f4 (fun _ => rfl) (fun h5 _ h6 h7 => M_done h5 h6 h7)
theorem F_say (hTT : TT N t) (h : MI d N t m (st0 q)) (hq : q ≤ N) (hm : m < 30) : ok (ob2 (f_M_figures (J (5 * m + 1)) (J 1) d) fun r51 d52 => if r51 = J 0 then some (J 0, d52) else ob2 (f_M_digits (J (5 * m + 1 + 1)) (J 1) d52) fun r53 d54 => if r53 = J 0 then some (J 0, d54) else ob2 (f_M_isOneOf (J (5 * m + 1 + 2)) (J 43) (J 45) d54) fun r55 d56 => if r55 = J 0 then some (J 0, d56) else some (J 1, d56)) (fun z => z.1 = J (if (foR N t 3 q).1 = true then 1 else 0) ∧ MI z.2 N t m (foR N t 3 q) ∧ frU m d z.2) := by
  have eR : foR N t 3 q = sO N t 43 45 (sN N t 1 (sN N t 1 (sS N t (st0 q)))) := rfl
  rw [eR]
  have l1 : (sN N t 1 (sS N t (st0 q))).2.1 ≤ N := sN_le (sS_le hq)
  refine M_seq (M_fig hTT h rfl hq (show 0 < 4 by decide) rfl hm rfl (by decide) (by decide)) frU.refl (fun h => by simp only [sO_f h, sN_f h]) (fun h1 d2 m2 f2 => ?_)
  have c1 := sNS_c (show (st0 q).1 = true from rfl) h1
  generalize sN N t 1 (sS N t (st0 q)) = x1 at l1 h1 m2 c1 ⊢
  have k1 : x1.2.2.1 = 1 := c1.1
  have b1 : x1.2.2.2.2 = 2 := c1.2
  have l2 : (sN N t 1 x1).2.1 ≤ N := sN_le l1
  refine M_seq (M_digits m2.1 hTT m2 h1 l1 (by omega) (by omega) hm b1 (by decide) (by decide)) f2 (fun h => by simp only [sO_f h]) (fun h2 d3 m3 f3 => ?_)
  have c2 := sN_c h1 h2
  generalize sN N t 1 x1 = x2 at l2 h2 m3 c2 ⊢
  exact M_seq (M_one hTT m3 h2 l2 (by omega) (by omega) hm (by decide) (by decide)) f3 (fun _ => rfl) (fun h5 _ h6 h7 => M_done h5 h6 h7)
theorem F_admit (hTT : TT N t) (h : MI d N t m (st0 q)) (hq : q ≤ N) (hm : m < 30) : ok (ob2 (f_M_figures (J (5 * m + 1)) (J 1) d) fun r39 d40 => if r39 = J 0 then some (J 0, d40) else ob2 (f_M_skips (J 32) d40) fun r41 d42 => if r41 = J 0 then some (J 0, d42) else ob2 (f_M_isOneOf (J (5 * m + 1 + 1)) (J 103) (J 105) d42) fun r43 d44 => if r43 = J 0 then some (J 0, d44) else some (J 1, d44)) (fun z => z.1 = J (if (foR N t 5 q).1 = true then 1 else 0) ∧ MI z.2 N t m (foR N t 5 q) ∧ frU m d z.2) := by
  have eR : foR N t 5 q = sO N t 103 105 (sS N t (sN N t 1 (sS N t (st0 q)))) := rfl
  rw [eR]
  have l1 : (sN N t 1 (sS N t (st0 q))).2.1 ≤ N := sN_le (sS_le hq)
  refine M_seq (M_fig hTT h rfl hq (show 0 < 4 by decide) rfl hm rfl (by decide) (by decide)) frU.refl (fun h => by simp only [sO_f h, sS_f h]) (fun h1 d2 m2 f2 => ?_)
  have c1 := sNS_c (show (st0 q).1 = true from rfl) h1
  generalize sN N t 1 (sS N t (st0 q)) = x1 at l1 h1 m2 c1 ⊢
  have k1 : x1.2.2.1 = 1 := c1.1
  have l2 : (sS N t x1).2.1 ≤ N := sS_le l1
  refine M_seq (M_space m2.1 hTT m2 h1 l1) f2 (fun h => by simp only [sO_f h]) (fun h2 d3 m3 f3 => ?_)
  have c2 : (sS N t x1).2.2 = x1.2.2 := sS_cnt
  generalize sS N t x1 = x2 at l2 h2 m3 c2 ⊢
  have k2 : x2.2.2.1 = 1 := by rw [c2]; exact k1
  exact M_seq (M_one hTT m3 h2 l2 (by omega) (by omega) hm (by decide) (by decide)) f3 (fun _ => rfl) (fun h5 _ h6 h7 => M_done h5 h6 h7)
theorem F_wait (hTT : TT N t) (h : MI d N t m (st0 q)) (hq : q ≤ N) (hm : m < 30) : ok (gd (inb (J (5 * m + 1)) 155) <| bnd (wr d 299 (J (5 * m + 1)).toNatClampNeg (J 1)) fun d33 => ob1 (f_M_here d33) fun r34 => if r34 = J 32 then ob2 (f_M_figures (J (5 * m + 1)) (J 1) d33) fun r35 d36 => if r35 = J 0 then some (J 0, d36) else some (J 1, d36) else some (J 1, d33)) (fun z => z.1 = J (if (foR N t 7 q).1 = true then 1 else 0) ∧ MI z.2 N t m (foR N t 7 q) ∧ frU m d z.2) := by
  have f0 : frU m d (wr d 299 (5 * m + 1) (J 1)) := ⟨fun k h1 h2 => wr_k h2, fun j _ => by rw [wr_k (by decide)], fun q hq => wr_j (by omega)⟩
  have e14 : wr d 299 (5 * m + 1) (J 1) 292 14 = J q := by rw [wr_k (by decide)]; exact h.2.1
  have T1 := f0.tm h.1
  have eR : foR N t 7 q = wtR N t q := if_p rfl
  rw [eR, J_inb (by omega), gd_d (by omega), J_nat (by omega), ok_bnd, M_here T1 hTT e14 hq, ob1_s]
  unfold wtR
  by_cases u : tx N t q 32 = true
  · rw [if_p ((here_c hTT (by decide)).mpr u), if_p u]
    have m1 : MI (wr d 299 (5 * m + 1) (J 1)) N t m (st0 q) := ⟨T1, e14, fun j hj => absurd hj (Nat.not_lt_zero j), Or.inl rfl⟩
    refine ok_mono (F_1 hTT m1 hq hm (by decide) (by decide)) (fun z hz => ⟨hz.1, hz.2.1, f0.trans hz.2.2⟩)
  · rw [if_n (fun v => u ((here_c hTT (by decide)).mp v)), if_n u, ok_s]
    refine ⟨rfl, ⟨T1, e14, fun j hj => ?_, Or.inl rfl⟩, f0⟩
    have hj0 : j = 0 := by
      have : j < 1 := hj
      omega
    rw [hj0]
    exact (show wr d 299 (5 * m + 1) (J 1) 299 (5 * m + 1) = J 1 from wr_s)
theorem M_cmd (hT : TM d N t) (hTT : TT N t) (h2 : d 292 14 = J p) (hp : p ≤ N) (h16 : d 292 16 = J m) (hm : m < 30) : ok (f_M_commandHere d) (MC N t m d p) := by
  have f1 : frT m d (wr d 292 14 (J (p + 1))) := (frU_14 (m := m)).frT
  have T1 := f1.tm hT
  have e1 : wr d 292 14 (J (p + 1)) 292 14 = J (p + 1) := wr_s
  have g1 : wr d 292 14 (J (p + 1)) 292 16 = J m := by rw [wr_j (by decide)]; exact h16
  unfold f_M_commandHere
  simp only [J_lit, h16, J_mul, J_add]
  rw [M_skips hT hTT h2 hp (by decide), ok_ob2, ok_s]
  by_cases q1 : tx N t p 108 = true
  · have hk : kd N t p = 0 := if_p q1
    rw [if_p q1]
    dsimp only
    rw [if_n n10]
    have hwd := wd_all (30, 0, 1) (by decide)
    rw [ok_ob2]
    refine ok_mono (M_word (k2 := 30) (i := 0) (s := 1) T1 hTT e1 hp (by decide) (by decide) (lk_1 q1) (fun _ => hwd.1) (fun j _ hj => hwd.2 j hj) g1 hm) (fun z hz => ?_)
    obtain ⟨z1, z2, z3, z4⟩ := hz
    have f18 := f1.trans z3
    by_cases u : lk N t 0 p (KL 0) = KL 0
    · have ho : kwO N t p = true := by
        unfold kwO
        rw [hk, decide_eq_true (show 0 < 8 by decide), decide_eq_true u]
        rfl
      have hP : kwP N t p = p + KL 0 := by
        unfold kwP
        rw [hk, if_p (by decide), u]
      have hR : cmdR N t p = st0 (p + KL 0) := by
        unfold cmdR
        rw [if_p ho, hk, hP]
        rfl
      rw [u] at z2
      rw [z1, if_p u, gd_t1 (nar01 (t := 1) (by decide)), ok_s]
      unfold MC
      rw [hR]
      exact ⟨rfl, z2, fun _ => ⟨fun j hj => absurd hj (Nat.not_lt_zero j), Or.inl rfl, by rw [hk]; exact z4⟩, f18⟩
    · have ho : ¬ kwO N t p = true := fun v => by
        unfold kwO at v
        rw [Bool.and_eq_true, decide_eq_true_iff, decide_eq_true_iff, hk] at v
        exact u v.2
      have hR : cmdR N t p = (false, p + lk N t 0 p (KL 0), 0, (fun _ => 1), 2) := by
        unfold cmdR kwP
        rw [if_n ho, hk, if_p (by decide)]
      rw [z1, if_n u, gd_t1 (nar01 (t := 0) (by decide)), ok_s]
      unfold MC
      rw [hR]
      exact ⟨rfl, z2, fun v => (by cases v), f18⟩
  rw [if_n q1]
  dsimp only
  rw [if_p rfl, M_skips hT hTT h2 hp (by decide), ok_ob2, ok_s]
  by_cases q2 : tx N t p 99 = true
  · have hk : kd N t p = 2 := by unfold kd; rw [if_n q1, if_p q2]
    rw [if_p q2]
    dsimp only
    rw [if_n n10]
    exact M_wf f1 T1 hTT e1 hp (lk_1 (i := 2) q2) hk (by decide) (by decide) (by decide) g1 hm (fun d18 m18 hq => F_1 hTT m18 hq hm (by decide) (by decide))
  rw [if_n q2]
  dsimp only
  rw [if_p rfl, M_skips hT hTT h2 hp (by decide), ok_ob2, ok_s]
  by_cases q3 : tx N t p 115 = true
  · have hk : kd N t p = 3 := by unfold kd; rw [if_n q1, if_n q2, if_p q3]
    rw [if_p q3]
    dsimp only
    rw [if_n n10]
    exact M_wf f1 T1 hTT e1 hp (lk_1 (i := 3) q3) hk (by decide) (by decide) (by decide) g1 hm (fun d18 m18 hq => F_say hTT m18 hq hm)
  rw [if_n q3]
  dsimp only
  rw [if_p rfl, M_skips hT hTT h2 hp (by decide), ok_ob2, ok_s]
  by_cases q4 : tx N t p 100 = true
  · have hk : kd N t p = 4 := by unfold kd; rw [if_n q1, if_n q2, if_n q3, if_p q4]
    rw [if_p q4]
    dsimp only
    rw [if_n n10]
    exact M_wf f1 T1 hTT e1 hp (lk_1 (i := 4) q4) hk (by decide) (by decide) (by decide) g1 hm (fun d18 m18 hq => F_1 hTT m18 hq hm (by decide) (by decide))
  rw [if_n q4]
  dsimp only
  rw [if_p rfl, M_skips hT hTT h2 hp (by decide), ok_ob2, ok_s]
  by_cases q5 : tx N t p 97 = true
  · have hk : kd N t p = 5 := by unfold kd; rw [if_n q1, if_n q2, if_n q3, if_n q4, if_p q5]
    rw [if_p q5]
    dsimp only
    rw [if_n n10]
    exact M_wf f1 T1 hTT e1 hp (lk_1 (i := 5) q5) hk (by decide) (by decide) (by decide) g1 hm (fun d18 m18 hq => F_admit hTT m18 hq hm)
  rw [if_n q5]
  dsimp only
  rw [if_p rfl, M_skips hT hTT h2 hp (by decide), ok_ob2, ok_s]
  by_cases q6 : tx N t p 119 = true
  · have hk : kd N t p = 7 := by unfold kd; rw [if_n q1, if_n q2, if_n q3, if_n q4, if_n q5, if_p q6]
    rw [if_p q6]
    dsimp only
    rw [if_n n10]
    exact M_wf f1 T1 hTT e1 hp (lk_1 (i := 7) q6) hk (by decide) (by decide) (by decide) g1 hm (fun d18 m18 hq => F_wait hTT m18 hq hm)
  rw [if_n q6]
  dsimp only
  rw [if_p rfl, M_skips hT hTT h2 hp (by decide), ok_ob2, ok_s]
  by_cases q7 : tx N t p 102 = true
  · rw [if_p q7]
    dsimp only
    rw [if_n n10, M_skips T1 hTT e1 (tx_iff.mp q7).1 (by decide), ok_ob2, ok_s]
    by_cases q8 : tx N t (p + 1) 114 = true
    · have hk : kd N t p = 6 := by unfold kd; rw [if_n q1, if_n q2, if_n q3, if_n q4, if_n q5, if_n q6, if_p q7, if_p q8]
      have f2 : frT m d (wr (wr d 292 14 (J (p + 1))) 292 14 (J (p + 1 + 1))) := f1.trans (frU_14 (m := m)).frT
      rw [if_p q8]
      dsimp only
      rw [if_n n10]
      exact M_wf (s := 2) f2 (f2.tm hT) hTT wr_s hp (if_p ⟨lk_1 (i := 6) q7, q8⟩) hk (by decide) (by decide) (by decide) (by rw [wr_j (by decide)]; exact g1) hm (fun d18 m18 hq => F_1 hTT m18 hq hm (by decide) (by decide))
    · have hk : kd N t p = 1 := by unfold kd; rw [if_n q1, if_n q2, if_n q3, if_n q4, if_n q5, if_n q6, if_p q7, if_n q8]
      rw [if_n q8]
      dsimp only
      rw [if_p rfl]
      exact M_wf f1 T1 hTT e1 hp (lk_1 (i := 1) q7) hk (by decide) (by decide) (by decide) g1 hm (fun d18 m18 hq => F_file hTT m18 hq hm)
  have hk : kd N t p = 8 := by unfold kd; rw [if_n q1, if_n q2, if_n q3, if_n q4, if_n q5, if_n q6, if_n q7]
  have hR : cmdR N t p = (false, p, 0, (fun _ => 1), 2) := by
    unfold cmdR kwO kwP
    rw [hk]
    rfl
  rw [if_n q7]
  dsimp only
  rw [if_p rfl, ok_s]
  unfold MC
  rw [hR]
  exact ⟨rfl, h2, fun v => (by cases v), ⟨fun _ _ _ => rfl, fun _ _ => rfl, fun _ _ => rfl⟩⟩
end CMDM
