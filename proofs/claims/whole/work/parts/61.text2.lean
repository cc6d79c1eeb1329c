/-! 61: a whole text: whether it is well formed, both sides -/
section TEXT2
variable {d d' d1 d2 : Dt} {N : Nat} {t : Nat → Nat} {p q n k m m' c i j x a s : Nat}
/-- where command m begins; whether one more follows -/
def cp (N : Nat) (t : Nat → Nat) : Nat → Nat
  | 0 => 0
  | m + 1 => (cmdR N t (cp N t m)).2.1 + 1
def more (N : Nat) (t : Nat → Nat) (m : Nat) : Prop := (cmdR N t (cp N t m)).1 = true ∧ tx N t (cmdR N t (cp N t m)).2.1 59 = true
/-- command m is the last one that is read; the text ends behind it -/
def lastC (N : Nat) (t : Nat → Nat) (m : Nat) : Prop := (∀ i, i < m → more N t i) ∧ ¬ more N t m
def fine (N : Nat) (t : Nat → Nat) (m : Nat) : Prop := (cmdR N t (cp N t m)).1 = true ∧ (cmdR N t (cp N t m)).2.1 = N
theorem lastC_u (h : lastC N t m) (h' : lastC N t m') : m = m' := by
  rcases Nat.lt_trichotomy m m' with u | u | u
  · exact absurd (h'.1 m u) h.2
  · exact u
  · exact absurd (h.1 m' u) h'.2
theorem cp_in : ∀ m, (∀ i, i < m → more N t i) → cp N t m ≤ N := by
  intro m
  induction m with
  | zero => intro _; exact Nat.zero_le _
  | succ m ih =>
    intro h
    exact (tx_iff.mp (h m (Nat.lt_succ_self m)).2).1
theorem fo_ge : ∀ n, q ≤ (fo N t k q n).2.1 := by
  have hp : ∀ c (r : PR), r.2.1 ≤ (part N t c r).2.1 := fun c r => by
    unfold part sS sO sN
    repeat' split
    all_goals first | exact Nat.le_refl _ | exact Nat.le_add_right _ _
  intro n
  induction n with
  | zero => exact Nat.le_refl _
  | succ n ih => exact Nat.le_trans ih (hp _ _)
theorem cmd_ge (h : (cmdR N t p).1 = true) : p + 3 ≤ (cmdR N t p).2.1 := by
  unfold cmdR at h ⊢
  by_cases u : kwO N t p = true
  · rw [if_p u] at h ⊢
    have hk : kwP N t p = p + KL (kd N t p) ∧ kd N t p < 8 := by
      have v := u
      unfold kwO at v
      rw [Bool.and_eq_true, decide_eq_true_iff, decide_eq_true_iff] at v
      unfold kwP
      rw [if_p v.1, v.2]
      exact ⟨rfl, v.1⟩
    have hL := KL_le _ hk.2
    have hf : kwP N t p ≤ (foR N t (kd N t p) (kwP N t p)).2.1 := by
      unfold foR
      by_cases w : kd N t p = 7
      · rw [if_p w]
        unfold wtR sN sS
        repeat' split
        all_goals first | exact Nat.le_refl _ | exact Nat.le_add_right _ _ | (show kwP N t p ≤ kwP N t p + 1 + _; omega)
      · rw [if_n w]
        exact fo_ge _
    omega
  · rw [if_n u] at h
    cases h
theorem cp_ge : ∀ m, (∀ i, i < m → more N t i) → 4 * m ≤ cp N t m := by
  intro m
  induction m with
  | zero => intro _; exact Nat.le_refl _
  | succ m ih =>
    intro h
    have h1 := ih (fun i hi => h i (by omega))
    have h2 := cmd_ge (h m (Nat.lt_succ_self m)).1
    show 4 * (m + 1) ≤ (cmdR N t (cp N t m)).2.1 + 1
    omega
theorem m_le (hTT : TT N t) (h : ∀ i, i < m → more N t i) : m ≤ 15 := by
  have h1 := cp_ge m h
  have h2 := cp_in m h
  have := hTT.1
  omega
theorem fine_le (hTT : TT N t) (h : ∀ i, i < m → more N t i) (h2 : (cmdR N t (cp N t m)).1 = true) : m ≤ 14 := by
  have h1 := cp_ge m h
  have h3 := cmd_ge h2
  have h4 := cmdR_le (t := t) (cp_in m h)
  have := hTT.1
  omega
theorem more_all (h : ∀ i, i < m → more N t i) (h2 : more N t m) : ∀ i, i < m + 1 → more N t i := fun i hi => by
  rcases (by omega : i < m ∨ i = m) with u | rfl
  · exact h i u
  · exact h2
theorem atE_cases (h : p ≤ N) : (atE N t p = true ↔ (tx N t p 59 = true ∨ p = N)) := by
  unfold atE
  rw [Bool.or_eq_true, decide_eq_true_iff]
  refine ⟨fun u => ?_, fun u => ?_⟩
  · rcases u with u | u
    · exact Or.inr (by omega)
    · exact Or.inl u
  · rcases u with u | u
    · exact Or.inr u
    · exact Or.inl (by omega)
/-- the class: how many commands -/
theorem I_count (hT : TC d N t) (hTT : TT N t) (hk3 : ∃ k, k < 8 ∧ d 287 3 = J k) : ok (f_I_countCommands d) (fun z => ∃ m, lastC N t m ∧ (fine N t m → z.1 = J (m + 1)) ∧ (¬ fine N t m → z.1 = -J 1 ∧ z.2 287 2 = J (cmdR N t (cp N t m)).2.1) ∧ frK d z.2 ∧ ∃ k, k < 8 ∧ z.2 287 3 = J k) := by
  have h60 := hTT.1
  have f0 : frK d (wr d 287 2 (J 0)) := ⟨fun k h1 _ => wr_k h1, fun j a1 _ _ _ => wr_j a1⟩
  unfold f_I_countCommands f_I_rewind f_I_countCommands_6
  simp only [J_lit]
  rw [ok_ob1, ok_bnd, ok_s]
  refine iter_me 61 (fun w z => ∃ m d5, z = (J (m + 1), d5) ∧ (∀ i, i < m → more N t i) ∧ d5 287 2 = J (cp N t m) ∧ frK d d5 ∧ (∃ k, k < 8 ∧ d5 287 3 = J k) ∧ 61 - cp N t m ≤ w) ⟨0, _, rfl, fun i hi => absurd hi (Nat.not_lt_zero i), wr_s, f0, by
    obtain ⟨k, k1, k2⟩ := hk3
    exact ⟨k, k1, by rw [wr_j (by decide)]; exact k2⟩, Nat.le_refl _⟩ (by decide) ?_
  intro w z hz
  obtain ⟨m, d5, rfl, z1, z2, z3, z4, z5⟩ := hz
  have hm := m_le hTT z1
  have hin := cp_in m z1
  have hge := cp_ge m z1
  have hR := cmdR_le (t := t) hin
  unfold st_I_countCommands_6
  simp only [J_lit]
  rw [if_n (fun u => by have := (J_lt (by omega) (by omega)).mp u; omega), ok_ob2]
  refine ok_mono (I_cmd (z3.tc hT) hTT z2 hin) (fun y hy => ?_)
  obtain ⟨y1, y2, y3, y4, y5⟩ := hy
  have f6 := z3.trans y4
  have k6 := y5 z4
  have hA := atE_cases (t := t) hR
  cases hok : (cmdR N t (cp N t m)).1 with
  | false =>
    rw [hok, Bool.false_and] at y1
    rw [y1, if_n (show ¬ (false = true) by decide), if_p rfl, ok_ir, ok_s]
    refine Or.inr ⟨_, rfl, m, ⟨z1, fun u => ?_⟩, fun u => ?_, fun _ => ⟨rfl, y2⟩, f6, k6⟩
    · have := u.1
      rw [hok] at this
      cases this
    · have := u.1
      rw [hok] at this
      cases this
  | true =>
    rw [hok, Bool.true_and] at y1
    by_cases ha : atE N t (cmdR N t (cp N t m)).2.1 = true
    · rw [y1, if_p ha, if_n n10, y2, (f6.tc hT).1]
      by_cases hx : tx N t (cmdR N t (cp N t m)).2.1 59 = true
      · have hlt := (tx_iff.mp hx).1
        have f7 : frK d (wr y.2 287 2 (J ((cmdR N t (cp N t m)).2.1 + 1))) := f6.trans ⟨fun k h1 _ => wr_k h1, fun j a1 _ _ _ => wr_j a1⟩
        have hcg := cmd_ge hok
        unfold f_I_skipSemicolon
        simp only [J_lit]
        rw [if_p ((J_lt (by omega) (by omega)).mpr hlt), ok_ob1, y2, J_add, ok_bnd, ok_s, ok_s, J_add]
        refine Or.inl ⟨_, 61 - cp N t (m + 1), ?_, rfl, m + 1, _, rfl, more_all z1 ⟨hok, hx⟩, wr_s, f7, ?_, Nat.le_refl _⟩
        · show 61 - ((cmdR N t (cp N t m)).2.1 + 1) < w
          omega
        · obtain ⟨k, k1, k2⟩ := k6
          exact ⟨k, k1, by rw [wr_j (by decide)]; exact k2⟩
      · have hN : (cmdR N t (cp N t m)).2.1 = N := by
          rcases hA.mp ha with u | u
          · exact absurd u hx
          · exact u
        rw [if_n (fun u => by have := (J_lt (by omega) (by omega)).mp u; omega), ok_ir, ok_s]
        exact Or.inr ⟨_, rfl, m, ⟨z1, fun u => hx u.2⟩, fun _ => rfl, fun u => absurd ⟨hok, hN⟩ u, f6, k6⟩
    · rw [y1, if_n ha, if_p rfl, ok_ir, ok_s]
      refine Or.inr ⟨_, rfl, m, ⟨z1, fun u => ha (hA.mpr (Or.inl u.2))⟩, fun u => absurd (hA.mpr (Or.inr u.2)) ha, fun _ => ⟨rfl, y2⟩, f6, k6⟩
/-- what the reference has written down of command i -/
def PM (N : Nat) (t : Nat → Nat) (d : Dt) (i : Nat) : Prop := (∀ j, j < (cmdR N t (cp N t i)).2.2.1 → d 299 (5 * i + 1 + j) = J ((cmdR N t (cp N t i)).2.2.2.1 j)) ∧ ((cmdR N t (cp N t i)).2.2.2.2 = 2 ∨ d 299 (5 * i + 1 + (cmdR N t (cp N t i)).2.2.1) = J (cmdR N t (cp N t i)).2.2.2.2) ∧ d 299 (5 * i) = J (kd N t (cp N t i))
theorem fo_cnt3 (hk : k < 8) : (foR N t k q).2.2.1 + (if (foR N t k q).2.2.2.2 = 2 then 0 else 1) ≤ 4 := by
  have pc3 : ∀ c (r : PR), (part N t c r).2.2.1 + (if (part N t c r).2.2.2.2 = 2 then 0 else 1) ≤ r.2.2.1 + (if r.2.2.2.2 = 2 then 0 else 1) + 1 := fun c r => by
    unfold part sS sO sN
    repeat' split
    all_goals first | omega | (dsimp only; omega)
  have ps : ∀ (r : PR), (part N t 32 r).2.2.1 + (if (part N t 32 r).2.2.2.2 = 2 then 0 else 1) ≤ r.2.2.1 + (if r.2.2.2.2 = 2 then 0 else 1) := fun r => by
    have e : part N t 32 r = sS N t r := rfl
    rw [e, sS_cnt]
    exact Nat.le_refl _
  have key : ∀ n, (fo N t k q n).2.2.1 + (if (fo N t k q n).2.2.2.2 = 2 then 0 else 1) ≤ (Nat.rec (motive := fun _ => Nat) 0 (fun n v => v + (if FM k n = 32 then 0 else 1)) n) := by
    intro n
    induction n with
    | zero => exact Nat.le_refl _
    | succ n ih =>
      show (part N t (FM k n) (fo N t k q n)).2.2.1 + (if (part N t (FM k n) (fo N t k q n)).2.2.2.2 = 2 then 0 else 1) ≤ (Nat.rec (motive := fun _ => Nat) 0 (fun n v => v + (if FM k n = 32 then 0 else 1)) n) + (if FM k n = 32 then 0 else 1)
      by_cases u : FM k n = 32
      · have := ps (fo N t k q n)
        rw [u, if_p rfl]
        omega
      · have := pc3 (FM k n) (fo N t k q n)
        rw [if_n u]
        omega
  have hb : ∀ k, k < 8 → (Nat.rec (motive := fun _ => Nat) 0 (fun n v => v + (if FM k n = 32 then 0 else 1)) (FL k)) ≤ 4 := by decide
  unfold foR
  by_cases u : k = 7
  · rw [if_p u]
    unfold wtR
    by_cases v : tx N t q 32 = true
    · rw [if_p v]
      have h1 := pc3 49 (sS N t (st0 q))
      have e : part N t 49 (sS N t (st0 q)) = sN N t 1 (sS N t (st0 q)) := rfl
      rw [e, sS_cnt] at h1
      have h2 : (st0 q).2.2.1 + (if (st0 q).2.2.2.2 = 2 then 0 else 1) = 0 := rfl
      omega
    · rw [if_n v]
      show 1 + 0 ≤ 4
      decide
  · rw [if_n u]
    exact Nat.le_trans (key (FL k)) (hb k hk)
theorem PM_fr (h : PM N t d i) (hi : i < m) (hok : (cmdR N t (cp N t i)).1 = true) (hf : frT m d d') : PM N t d' i := by
  obtain ⟨h1, h2, h3⟩ := h
  have hc : (cmdR N t (cp N t i)).2.2.1 + (if (cmdR N t (cp N t i)).2.2.2.2 = 2 then 0 else 1) ≤ 4 := by
    unfold cmdR at hok ⊢
    by_cases u : kwO N t (cp N t i) = true
    · rw [if_p u] at hok ⊢
      have v := u
      unfold kwO at v
      rw [Bool.and_eq_true, decide_eq_true_iff] at v
      exact fo_cnt3 v.1
    · rw [if_n u] at hok
      cases hok
  refine ⟨fun j hj => ?_, ?_, ?_⟩
  · rw [hf.2.2 _ (by omega)]; exact h1 j hj
  · rcases h2 with h2 | h2
    · exact Or.inl h2
    · by_cases u : (cmdR N t (cp N t i)).2.2.2.2 = 2
      · exact Or.inl u
      · rw [if_n u] at hc
        exact Or.inr (by rw [hf.2.2 _ (by omega)]; exact h2)
  · rw [hf.2.2 _ (by omega)]; exact h3
/-- the reference: is it a text? -/
theorem M_text (hT : TM d N t) (hTT : TT N t) : ok (f_M_isText d) (fun z => ∃ m, lastC N t m ∧ (fine N t m → z.1 = J 1 ∧ z.2 292 16 = J (m + 1) ∧ ∀ i, i < m + 1 → PM N t z.2 i) ∧ (¬ fine N t m → z.1 = J 0 ∧ z.2 292 14 = J (cmdR N t (cp N t m)).2.1) ∧ (∀ k, k ≠ 292 → k ≠ 299 → z.2 k = d k) ∧ ∀ j, j ≠ 14 → j ≠ 16 → z.2 292 j = d 292 j) := by
  have h60 := hTT.1
  unfold f_M_isText f_M_isText_10
  simp only [J_lit]
  rw [ok_bnd, ok_bnd]
  refine iter_me 61 (fun w d5 => ∃ m, (∀ i, i < m → more N t i) ∧ d5 292 14 = J (cp N t m) ∧ d5 292 16 = J m ∧ (∀ i, i < m → PM N t d5 i) ∧ (∀ k, k ≠ 292 → k ≠ 299 → d5 k = d k) ∧ (∀ j, j ≠ 14 → j ≠ 16 → d5 292 j = d 292 j) ∧ 61 - cp N t m ≤ w) ⟨0, fun i hi => absurd hi (Nat.not_lt_zero i), by rw [wr_j (by decide), wr_s]; rfl, wr_s, fun i hi => absurd hi (Nat.not_lt_zero i), fun k h1 h2 => by rw [wr_k h1, wr_k h1], fun j h1 h2 => by rw [wr_j h2, wr_j h1], Nat.le_refl _⟩ (by decide) ?_
  intro w d5 hz
  obtain ⟨m, z1, z2, z3, z4, z5, z6, z7⟩ := hz
  have hm := m_le hTT z1
  have hin := cp_in m z1
  have hge := cp_ge m z1
  have hR := cmdR_le (t := t) hin
  have T5 : TM d5 N t := ⟨by rw [z6 9 (by decide) (by decide)]; exact hT.1, fun j hj => by rw [z5 297 (by decide) (by decide)]; exact hT.2 j hj⟩
  unfold st_M_isText_10
  simp only [J_lit]
  rw [ok_ob2]
  refine ok_mono (M_cmd T5 hTT z2 hin z3 (by omega)) (fun y hy => ?_)
  obtain ⟨y1, y2, y3, y4⟩ := hy
  have g5 : ∀ k, k ≠ 292 → k ≠ 299 → y.2 k = d k := fun k h1 h2 => (y4.1 k h1 h2).trans (z5 k h1 h2)
  have g6 : ∀ j, j ≠ 14 → j ≠ 16 → y.2 292 j = d 292 j := fun j h1 h2 => (y4.2.1 j h1).trans (z6 j h1 h2)
  cases hok : (cmdR N t (cp N t m)).1 with
  | false =>
    rw [hok] at y1
    rw [y1, if_n (show ¬ (false = true) by decide), if_p rfl, ok_ir, ok_s]
    refine Or.inr ⟨_, rfl, m, ⟨z1, fun u => ?_⟩, fun u => ?_, fun _ => ⟨rfl, y2⟩, g5, g6⟩
    · have := u.1
      rw [hok] at this
      cases this
    · have := u.1
      rw [hok] at this
      cases this
  | true =>
    have e16 : y.2 292 16 = J m := by rw [y4.2.1 16 (by decide)]; exact z3
    have hP : ∀ d6, (∀ q, d6 299 q = y.2 299 q) → ∀ i, i < m + 1 → PM N t d6 i := fun d6 h6 i hi => by
      have hP1 : PM N t y.2 i := by
        rcases (by omega : i < m ∨ i = m) with u | rfl
        · exact PM_fr (z4 i u) u (z1 i u).1 y4
        · exact ⟨(y3 hok).1, (y3 hok).2.1, (y3 hok).2.2⟩
      exact ⟨fun j hj => by rw [h6]; exact hP1.1 j hj, by rw [h6]; exact hP1.2.1, by rw [h6]; exact hP1.2.2⟩
    rw [hok] at y1
    rw [y1, if_p rfl, if_n n10, e16, J_add, ok_bnd]
    have T6 : TM (wr y.2 292 16 (J (m + 1))) N t := ⟨by rw [wr_j (by decide), g6 9 (by decide) (by decide)]; exact hT.1, fun j hj => by rw [wr_k (by decide), g5 297 (by decide) (by decide)]; exact hT.2 j hj⟩
    have e14 : wr y.2 292 16 (J (m + 1)) 292 14 = J (cmdR N t (cp N t m)).2.1 := by rw [wr_j (by decide)]; exact y2
    rw [M_skips T6 hTT e14 hR (by decide), ok_ob2, ok_s]
    by_cases hx : tx N t (cmdR N t (cp N t m)).2.1 59 = true
    · have hcg := cmd_ge hok
      have hlt := (tx_iff.mp hx).1
      rw [if_p hx]
      dsimp only
      rw [if_n n10, ok_s]
      refine Or.inl ⟨_, 61 - cp N t (m + 1), ?_, rfl, m + 1, more_all z1 ⟨hok, hx⟩, wr_s, by rw [wr_j (by decide), wr_s], hP _ (fun q => by rw [wr_k (by decide), wr_k (by decide)]), fun k h1 h2 => by rw [wr_k h1, wr_k h1]; exact g5 k h1 h2, fun j h1 h2 => by rw [wr_j h1, wr_j h2]; exact g6 j h1 h2, Nat.le_refl _⟩
      show 61 - ((cmdR N t (cp N t m)).2.1 + 1) < w
      omega
    · rw [if_n hx]
      dsimp only
      have hcond : (wr y.2 292 16 (J (m + 1)) 292 14 = wr y.2 292 16 (J (m + 1)) 292 9) ↔ (cmdR N t (cp N t m)).2.1 = N := by
        rw [e14, T6.1, J_inj (by omega) (by omega)]
      rw [if_p rfl, ok_ir]
      by_cases hN : (cmdR N t (cp N t m)).2.1 = N
      · rw [if_p (hcond.mpr hN), ok_s]
        refine Or.inr ⟨_, rfl, m, ⟨z1, fun u => hx u.2⟩, fun _ => ⟨rfl, (show wr y.2 292 16 (J (m + 1)) 292 16 = J (m + 1) from wr_s), hP (wr y.2 292 16 (J (m + 1))) (fun q => by rw [wr_k (by decide)])⟩, fun u => absurd ⟨hok, hN⟩ u, fun k h1 h2 => ?_, fun j h1 h2 => ?_⟩
        · show wr y.2 292 16 (J (m + 1)) k = d k
          rw [wr_k h1]; exact g5 k h1 h2
        · show wr y.2 292 16 (J (m + 1)) 292 j = d 292 j
          rw [wr_j h2]; exact g6 j h1 h2
      · rw [if_n (fun u => hN (hcond.mp u)), ok_s]
        refine Or.inr ⟨_, rfl, m, ⟨z1, fun u => hx u.2⟩, fun u => absurd u.2 hN, fun _ => ⟨rfl, e14⟩, fun k h1 h2 => ?_, fun j h1 h2 => ?_⟩
        · show wr y.2 292 16 (J (m + 1)) k = d k
          rw [wr_k h1]; exact g5 k h1 h2
        · show wr y.2 292 16 (J (m + 1)) 292 j = d 292 j
          rw [wr_j h2]; exact g6 j h1 h2
end TEXT2
