/-! 59: the reference reads a command -/
section READM
variable {d d' d1 d2 : Dt} {N : Nat} {t : Nat → Nat} {p q n k m c c' i j x a s : Nat}
def TM (d : Dt) (N : Nat) (t : Nat → Nat) : Prop := d 292 9 = J N ∧ ∀ j, j < N → d 297 j = J (t j)
def MI (d : Dt) (N : Nat) (t : Nat → Nat) (m : Nat) (r : PR) : Prop := TM d N t ∧ d 292 14 = J r.2.1 ∧ (∀ j, j < r.2.2.1 → d 299 (5 * m + 1 + j) = J (r.2.2.2.1 j)) ∧ (r.2.2.2.2 = 2 ∨ d 299 (5 * m + 1 + r.2.2.1) = J r.2.2.2.2)
/-- a part leaves the rest; a command leaves the rest -/
def frU (m : Nat) (d d' : Dt) : Prop := (∀ k, k ≠ 292 → k ≠ 299 → d' k = d k) ∧ (∀ j, j ≠ 14 → d' 292 j = d 292 j) ∧ ∀ q, q < 5 * m + 1 ∨ 5 * m + 5 ≤ q → d' 299 q = d 299 q
def frT (m : Nat) (d d' : Dt) : Prop := (∀ k, k ≠ 292 → k ≠ 299 → d' k = d k) ∧ (∀ j, j ≠ 14 → d' 292 j = d 292 j) ∧ ∀ q, q < 5 * m ∨ 5 * m + 5 ≤ q → d' 299 q = d 299 q
theorem frU.refl : frU m d d := ⟨fun _ _ _ => rfl, fun _ _ => rfl, fun _ _ => rfl⟩
theorem frU.trans (h : frU m d d1) (h2 : frU m d1 d2) : frU m d d2 := ⟨fun k h3 h4 => (h2.1 k h3 h4).trans (h.1 k h3 h4), fun j hj => (h2.2.1 j hj).trans (h.2.1 j hj), fun q hq => (h2.2.2 q hq).trans (h.2.2 q hq)⟩
theorem frT.trans (h : frT m d d1) (h2 : frT m d1 d2) : frT m d d2 := ⟨fun k h3 h4 => (h2.1 k h3 h4).trans (h.1 k h3 h4), fun j hj => (h2.2.1 j hj).trans (h.2.1 j hj), fun q hq => (h2.2.2 q hq).trans (h.2.2 q hq)⟩
theorem frU.frT (h : frU m d d1) : frT m d d1 := ⟨h.1, h.2.1, fun q hq => h.2.2 q (by omega)⟩
theorem frT.tm (h : frT m d d1) (hT : TM d N t) : TM d1 N t := ⟨by rw [h.2.1 9 (by decide)]; exact hT.1, fun j hj => by rw [h.1 297 (by decide) (by decide)]; exact hT.2 j hj⟩
theorem frU.tm (h : frU m d d1) (hT : TM d N t) : TM d1 N t := h.frT.tm hT
theorem frU_14 {v : Int32} : frU m d (wr d 292 14 v) := ⟨fun k h1 _ => wr_k h1, fun j h2 => wr_j h2, fun q _ => by rw [wr_k (by decide)]⟩
theorem M_here (hT : TM d N t) (hTT : TT N t) (h2 : d 292 14 = J p) (hp : p ≤ N) : f_M_here d = some (if p < N then J (t p) else -J 1) := by
  have h60 := hTT.1
  unfold f_M_here
  simp only [J_lit]
  rw [hT.1, h2]
  by_cases q : p < N
  · rw [if_n (fun u => by have := (J_le (by omega) (by omega)).mp u; omega), J_inb (by omega), gd_d (by omega), J_nat (by omega), hT.2 p q, if_p q]
  · rw [if_p ((J_le (by omega) (by omega)).mpr (by omega)), if_n q]
theorem here_c (hTT : TT N t) (hc : c < 65536) : ((if p < N then J (t p) else -J 1) = J c) ↔ tx N t p c = true := by
  rw [tx_iff]
  by_cases q : p < N
  · have htp := hTT.2 p q
    rw [if_p q, J_inj (by omega) (by omega)]
    exact ⟨fun h => ⟨q, h⟩, fun h => h.2⟩
  · rw [if_n q, J_1ne (by omega)]
    exact ⟨fun h => h.elim, fun h => absurd h.1 q⟩
theorem M_skips (hT : TM d N t) (hTT : TT N t) (h2 : d 292 14 = J p) (hp : p ≤ N) (hc : c < 65536) : f_M_skips (J c) d = some (if tx N t p c = true then (J 1, wr d 292 14 (J (p + 1))) else (J 0, d)) := by
  unfold f_M_skips
  simp only [J_lit]
  rw [M_here hT hTT h2 hp, ob1_s, h2, J_add]
  by_cases q : tx N t p c = true
  · rw [if_p ((here_c hTT hc).mpr q), if_p q]
    rfl
  · rw [if_n (fun u => q ((here_c hTT hc).mp u)), if_n q]
theorem M_dig (hTT : TT N t) : f_M_in (if p < N then J (t p) else -J 1) (J 48) (J 57) d = some (J (if dig N t p = true then 1 else 0)) := by
  by_cases q : p < N
  · have htp := hTT.2 p q
    rw [if_p q, M_in (by omega) (by decide) (by decide)]
    by_cases q2 : 48 ≤ t p ∧ t p ≤ 57
    · rw [if_p q2, if_p (dig_iff.mpr ⟨q, q2⟩)]
    · rw [if_n q2, if_n (fun u => q2 (dig_iff.mp u).2)]
  · rw [if_n q, if_n (fun u => q (dig_iff.mp u).1)]
    unfold f_M_in
    rw [if_p (show -J 1 < J 48 by decide)]
    rfl
theorem M_digits (hT : TM d N t) (hTT : TT N t) {r : PR} (h : MI d N t m r) (hr : r.1 = true) (hp : r.2.1 ≤ N) (hc : r.2.2.1 < 4) (ha : a = 5 * m + 1 + r.2.2.1) (hm : m < 30) (hch : r.2.2.2.2 = 2) (h1 : 1 ≤ n) (hn : n ≤ 9) : ok (f_M_digits (J a) (J n) d) (fun z => z.1 = J (if (sN N t n r).1 = true then 1 else 0) ∧ MI z.2 N t m (sN N t n r) ∧ frU m d z.2) := by
  have h60 := hTT.1
  obtain ⟨_, h2, h299, _⟩ := h
  have en : n = (n - 1) + 1 := by omega
  unfold f_M_digits sN MI
  simp only [J_lit]
  rw [if_p hr, M_here hT hTT h2 hp, ob1_s, M_dig hTT, ob1_s]
  by_cases q : dig N t r.2.1 = true
  · have e1 : nd N t n r.2.1 ≠ 0 := by
      rw [en]
      show (if dig N t r.2.1 then nd N t (n - 1) (r.2.1 + 1) + 1 else 0) ≠ 0
      rw [if_p q]
      omega
    rw [if_p q, if_n n10, J_inb (by omega), gd_d (by omega), J_nat (by omega), if_n e1, ok_bnd]
    dsimp only
    unfold f_M_digits_25
    have f0 : frU m d (wr d 299 a (J 0)) := ⟨fun k h1 h2 => wr_k h2, fun j _ => by rw [wr_k (by decide)], fun q hq => wr_j (by omega)⟩
    have o0 : ∀ j, j ≠ a → wr d 299 a (J 0) 299 j = d 299 j := fun j hj => wr_j hj
    have p0 : wr d 299 a (J 0) 292 14 = J (r.2.1 + 0) := by rw [wr_k (by decide), h2]; rfl
    have v0 : wr d 299 a (J 0) 299 a = J 0 := wr_s
    generalize wr d 299 a (J 0) = d4 at f0 o0 p0 v0 ⊢
    have fin : ∀ i v d5, d5 299 a = J v → d5 292 14 = J (r.2.1 + i) → frU m d d5 → (∀ j, j ≠ a → d5 299 j = d 299 j) → nd N t n r.2.1 = i → nv N t n r.2.1 0 = v → J 1 = J (if (true = true) then 1 else 0) ∧ (TM d5 N t ∧ d5 292 14 = J (r.2.1 + nd N t n r.2.1) ∧ (∀ j, j < r.2.2.1 + 1 → d5 299 (5 * m + 1 + j) = J (updG r.2.2.2.1 r.2.2.1 (nv N t n r.2.1 0) j)) ∧ (r.2.2.2.2 = 2 ∨ d5 299 (5 * m + 1 + (r.2.2.1 + 1)) = J r.2.2.2.2)) ∧ frU m d d5 := by
      intro i v d5 ev e14 f5 o5 e1 e2
      refine ⟨rfl, ⟨f5.tm hT, by rw [e1]; exact e14, fun j hj => ?_, Or.inl hch⟩, f5⟩
      by_cases u : j = r.2.2.1
      · rw [u, updG_s, ← ha, e2]; exact ev
      · rw [updG_n u, o5 _ (by omega)]
        exact h299 j (by omega)
    refine iter_up 0 n (fun i z => ∃ v d5, z = (J i, d5) ∧ d5 299 a = J v ∧ d5 292 14 = J (r.2.1 + i) ∧ frU m d d5 ∧ (∀ j, j ≠ a → d5 299 j = d 299 j) ∧ r.2.1 + i ≤ N ∧ nd N t n r.2.1 = i + nd N t (n - i) (r.2.1 + i) ∧ nv N t n r.2.1 0 = nv N t (n - i) (r.2.1 + i) v) ⟨0, d4, rfl, v0, p0, f0, o0, hp, by rw [Nat.sub_zero, Nat.zero_add]; rfl, rfl⟩ (Nat.zero_le _) (by omega) ?_ ?_
    · intro i z hi hz
      obtain ⟨v, d5, rfl, ev, e14, f5, o5, hle, e1, e2⟩ := hz
      have T5 := f5.tm hT
      have es : n - i = (n - (i + 1)) + 1 := by omega
      rw [es] at e1 e2
      unfold st_M_digits_25
      simp only [J_lit]
      rw [if_n (fun q => by have := (J_le (by omega) (by omega)).mp q; omega), M_here T5 hTT e14 hle, ob1_s, M_dig hTT, ob1_s]
      by_cases q2 : dig N t (r.2.1 + i) = true
      · obtain ⟨k1, k2, k3⟩ := dig_iff.mp q2
        have e3 : nd N t ((n - (i + 1)) + 1) (r.2.1 + i) = nd N t (n - (i + 1)) (r.2.1 + i + 1) + 1 := if_p q2
        have e4 : nv N t ((n - (i + 1)) + 1) (r.2.1 + i) v = nv N t (n - (i + 1)) (r.2.1 + i + 1) (10 * v + (t (r.2.1 + i) - 48)) := if_p q2
        rw [if_p q2, if_n n10, J_inb (by omega), gd_d (by omega), ob1_s, gd_d (by omega), J_nat (by omega), ev, if_p k1, J_mul, J_add, J_sub (by omega), ok_bnd, wr_k (show 292 ≠ 299 by decide), e14, J_add, ok_bnd, ok_s, J_add]
        refine Or.inl ⟨_, rfl, 10 * v + (t (r.2.1 + i) - 48), _, rfl, ?_, wr_s, ?_, fun j hj => ?_, by omega, ?_, ?_⟩
        · rw [wr_k (by decide), wr_s, show 10 * v + t (r.2.1 + i) - 48 = 10 * v + (t (r.2.1 + i) - 48) by omega]
        · exact f5.trans ⟨fun k h1 h2 => by rw [wr_k h1, wr_k h2], fun j hj => by rw [wr_j hj, wr_k (by decide)], fun q hq => by rw [wr_k (by decide), wr_j (by omega)]⟩
        · rw [wr_k (by decide), wr_j hj]; exact o5 j hj
        · rw [e1, e3, show r.2.1 + (i + 1) = r.2.1 + i + 1 by omega]
          omega
        · rw [e2, e4, show r.2.1 + (i + 1) = r.2.1 + i + 1 by omega]
      · have e3 : nd N t ((n - (i + 1)) + 1) (r.2.1 + i) = 0 := if_n q2
        have e4 : nv N t ((n - (i + 1)) + 1) (r.2.1 + i) v = v := if_n q2
        rw [if_n q2, if_p rfl, ok_ir, ok_s]
        exact Or.inr ⟨_, rfl, fin i v d5 ev e14 f5 o5 (by omega) (by rw [e2, e4])⟩
    · intro z hz
      obtain ⟨v, d5, rfl, ev, e14, f5, o5, hle, e1, e2⟩ := hz
      unfold st_M_digits_25
      simp only [J_lit]
      rw [if_p ((J_le (by omega) (by omega)).mpr (Nat.le_refl _)), ok_ir, ok_s]
      rw [Nat.sub_self] at e1 e2
      exact ⟨_, rfl, fin n v d5 ev e14 f5 o5 e1 e2⟩
  · have e1 : nd N t n r.2.1 = 0 := by
      rw [en]
      exact if_n q
    rw [if_n q, if_p rfl, ok_s, e1, if_p rfl]
    exact ⟨rfl, ⟨hT, h2, h299, Or.inl hch⟩, frU.refl⟩
theorem M_space (hT : TM d N t) (hTT : TT N t) {r : PR} (h : MI d N t m r) (hr : r.1 = true) (hp : r.2.1 ≤ N) : ok (f_M_skips (J 32) d) (fun z => z.1 = J (if (sS N t r).1 = true then 1 else 0) ∧ MI z.2 N t m (sS N t r) ∧ frU m d z.2) := by
  obtain ⟨_, h2, h299, hch⟩ := h
  unfold sS MI
  rw [if_p hr, M_skips hT hTT h2 hp (by decide), ok_s]
  by_cases q : tx N t r.2.1 32 = true
  · rw [if_p q, if_p q]
    refine ⟨rfl, ⟨frU_14.tm (m := m) hT, (show wr d 292 14 (J (r.2.1 + 1)) 292 14 = J (r.2.1 + 1) from wr_s), fun j hj => ?_, ?_⟩, frU_14⟩
    · show wr d 292 14 (J (r.2.1 + 1)) 299 (5 * m + 1 + j) = _
      rw [wr_k (by decide)]; exact h299 j hj
    · show r.2.2.2.2 = 2 ∨ wr d 292 14 (J (r.2.1 + 1)) 299 (5 * m + 1 + r.2.2.1) = J r.2.2.2.2
      rw [wr_k (by decide)]; exact hch
  · rw [if_n q, if_n q]
    exact ⟨rfl, ⟨hT, h2, h299, hch⟩, frU.refl⟩
theorem sS_cnt {r : PR} : (sS N t r).2.2 = r.2.2 := by
  unfold sS
  repeat' split
  all_goals rfl
theorem M_fig (hTT : TT N t) {r : PR} (h : MI d N t m r) (hr : r.1 = true) (hp : r.2.1 ≤ N) (hc : r.2.2.1 < 4) (ha : a = 5 * m + 1 + r.2.2.1) (hm : m < 30) (hch : r.2.2.2.2 = 2) (h1 : 1 ≤ n) (hn : n ≤ 9) : ok (f_M_figures (J a) (J n) d) (fun z => z.1 = J (if (sN N t n (sS N t r)).1 = true then 1 else 0) ∧ MI z.2 N t m (sN N t n (sS N t r)) ∧ frU m d z.2) := by
  unfold f_M_figures
  simp only [J_lit]
  rw [ok_ob2]
  refine ok_mono (M_space h.1 hTT h hr hp) (fun z hz => ?_)
  obtain ⟨z1, z2, z3⟩ := hz
  by_cases q : (sS N t r).1 = true
  · rw [z1, if_p q, if_n n10, ok_ob2]
    have ec : (sS N t r).2.2 = r.2.2 := sS_cnt
    refine ok_mono (M_digits z2.1 hTT z2 q (sS_le hp) (by rw [ec]; exact hc) (by rw [ec]; exact ha) hm (by rw [ec]; exact hch) h1 hn) (fun y hy => ?_)
    obtain ⟨y1, y2, y3⟩ := hy
    by_cases u : (sN N t n (sS N t r)).1 = true
    · rw [y1, if_p u, if_n n10, ok_s]
      exact ⟨rfl, y2, z3.trans y3⟩
    · rw [y1, if_n u, if_p rfl, ok_s]
      exact ⟨rfl, y2, z3.trans y3⟩
  · rw [z1, if_n q, if_p rfl, ok_s]
    rw [Bool.not_eq_true] at q
    rw [sN_f q]
    exact ⟨by rw [q]; rfl, z2, z3⟩
theorem M_one (hTT : TT N t) {r : PR} (h : MI d N t m r) (hr : r.1 = true) (hp : r.2.1 ≤ N) (hc : r.2.2.1 < 4) (ha : a = 5 * m + 1 + r.2.2.1) (hm : m < 30) (h1 : c < 65536) (h2' : c' < 65536) : ok (f_M_isOneOf (J a) (J c) (J c') d) (fun z => z.1 = J (if (sO N t c c' r).1 = true then 1 else 0) ∧ MI z.2 N t m (sO N t c c' r) ∧ frU m d z.2) := by
  have h60 := hTT.1
  obtain ⟨hT, h2, h299, _⟩ := h
  have f0 : ∀ v : Int32, frU m d (wr d 299 a v) := fun v => ⟨fun k h1 h2 => wr_k h2, fun j _ => by rw [wr_k (by decide)], fun q hq => wr_j (by omega)⟩
  have nums : ∀ v : Int32, ∀ j, j < r.2.2.1 → wr d 299 a v 299 (5 * m + 1 + j) = J (r.2.2.2.1 j) := fun v j hj => by rw [wr_j (by omega)]; exact h299 j hj
  have go : ∀ v, (tx N t r.2.1 c = true → v = 1) → (¬ tx N t r.2.1 c = true → v = 0) → ok (f_M_isOneOf_18 (J c) (J c') (J a) (J v) d) (fun z => z.1 = J (if (sO N t c c' r).1 = true then 1 else 0) ∧ MI z.2 N t m (sO N t c c' r) ∧ frU m d z.2) := by
    intro v hv1 hv0
    have T1 := (f0 (J v)).tm hT
    have e14 : wr d 299 a (J v) 292 14 = J r.2.1 := by rw [wr_k (by decide)]; exact h2
    have ea : wr d 299 a (J v) 299 (5 * m + 1 + r.2.2.1) = J v := by rw [← ha, wr_s]
    have hn := nums (J v)
    have ff := f0 (J v)
    unfold f_M_isOneOf_18 sO MI
    simp only [J_lit]
    rw [if_p hr, J_inb (by omega), gd_d (by omega), J_nat (by omega), ok_bnd]
    generalize wr d 299 a (J v) = d5 at T1 e14 ea hn ff ⊢
    rw [M_skips T1 hTT e14 hp h1, ok_ob2, ok_s]
    by_cases q : tx N t r.2.1 c = true
    · have v1 := hv1 q
      rw [if_p q, if_p q]
      dsimp only
      rw [if_n n10, ok_s]
      dsimp only
      refine ⟨rfl, ⟨frU_14.tm (m := m) T1, wr_s, fun j hj => by rw [wr_k (by decide)]; exact hn j hj, Or.inr ?_⟩, ff.trans frU_14⟩
      rw [wr_k (by decide), ea, v1]
    · have v1 := hv0 q
      rw [if_n q, if_n q]
      dsimp only
      rw [if_p rfl, M_skips T1 hTT e14 hp h2', ok_ob2, ok_s]
      by_cases q2 : tx N t r.2.1 c' = true
      · rw [if_p q2, if_p q2]
        dsimp only
        rw [if_n n10, ok_s]
        dsimp only
        refine ⟨rfl, ⟨frU_14.tm (m := m) T1, wr_s, fun j hj => by rw [wr_k (by decide)]; exact hn j hj, Or.inr ?_⟩, ff.trans frU_14⟩
        rw [wr_k (by decide), ea, v1]
      · rw [if_n q2, if_n q2]
        dsimp only
        rw [if_p rfl, ok_s]
        exact ⟨rfl, ⟨T1, e14, hn, Or.inr (ea.trans (by rw [v1]))⟩, ff⟩
  unfold f_M_isOneOf
  simp only [J_lit]
  rw [M_here hT hTT h2 hp, ob1_s]
  by_cases q : tx N t r.2.1 c = true
  · rw [if_p ((here_c hTT h1).mpr q)]
    exact go 1 (fun _ => rfl) (fun u => absurd q u)
  · rw [if_n (fun u => q ((here_c hTT h1).mp u))]
    exact go 0 (fun u => absurd u q) (fun _ => rfl)
/-- one part, then the rest -/
theorem M_seq {F : Option (Int32 × Dt)} {K : Dt → Option (Int32 × Dt)} {r rf : PR} {d0 : Dt} (hF : ok F (fun z => z.1 = J (if r.1 = true then 1 else 0) ∧ MI z.2 N t m r ∧ frU m d z.2)) (h0 : frU m d0 d) (hfail : r.1 = false → rf = r) (hK : r.1 = true → ∀ d', MI d' N t m r → frU m d0 d' → ok (K d') (fun z => z.1 = J (if rf.1 = true then 1 else 0) ∧ MI z.2 N t m rf ∧ frU m d0 z.2)) : ok (ob2 F fun x d2 => if x = J 0 then some (J 0, d2) else K d2) (fun z => z.1 = J (if rf.1 = true then 1 else 0) ∧ MI z.2 N t m rf ∧ frU m d0 z.2) := by
  rw [ok_ob2]
  refine ok_mono hF (fun z hz => ?_)
  obtain ⟨z1, z2, z3⟩ := hz
  by_cases q : r.1 = true
  · rw [z1, if_p q, if_n n10]
    exact hK q z.2 z2 (h0.trans z3)
  · rw [z1, if_n q, if_p rfl, ok_s]
    rw [Bool.not_eq_true] at q
    rw [hfail q]
    exact ⟨by rw [q]; rfl, z2, h0.trans z3⟩
theorem M_done {r : PR} (hr : r.1 = true) (h : MI d N t m r) {d0 : Dt} (hf : frU m d0 d) : ok (some (J 1, d)) (fun z => z.1 = J (if r.1 = true then 1 else 0) ∧ MI z.2 N t m r ∧ frU m d0 z.2) := by
  rw [ok_s]
  exact ⟨by rw [if_p hr], h, hf⟩
theorem sN_c {r : PR} (hr : r.1 = true) (h : (sN N t n r).1 = true) : (sN N t n r).2.2.1 = r.2.2.1 + 1 ∧ (sN N t n r).2.2.2.2 = r.2.2.2.2 := by
  unfold sN at h ⊢
  rw [if_p hr] at h ⊢
  by_cases q : nd N t n r.2.1 = 0
  · rw [if_p q] at h
    cases h
  · rw [if_n q]
    exact ⟨rfl, rfl⟩
theorem sNS_c {r : PR} (hr : r.1 = true) (h : (sN N t n (sS N t r)).1 = true) : (sN N t n (sS N t r)).2.2.1 = r.2.2.1 + 1 ∧ (sN N t n (sS N t r)).2.2.2.2 = r.2.2.2.2 := by
  have hs : (sS N t r).1 = true := by
    cases q : (sS N t r).1 with
    | true => rfl
    | false =>
      rw [sN_f q, q] at h
      cases h
  have h2 := sN_c hs h
  rw [sS_cnt] at h2
  exact h2
/-- the rest of a word -/
theorem M_word {k2 : Nat} (hT : TM d N t) (hTT : TT N t) (h2 : d 292 14 = J (p + s)) (hp : p ≤ N) (hi : i < 8) (hs : s < KL i) (hlk : lk N t i p s = s) (hlen : ∀ d, f_JS_length k2 d = some (J (KL i - s))) (hat : ∀ j d, j < KL i - s → f_JS_charAt k2 (J j) d = some (J (KW i (s + j)))) (h16 : d 292 16 = J m) (hm : m < 30) : ok (f_M_isWord k2 (J i) d) (fun z => z.1 = J (if lk N t i p (KL i) = KL i then 1 else 0) ∧ z.2 292 14 = J (p + lk N t i p (KL i)) ∧ frT m d z.2 ∧ z.2 299 (5 * m) = J i) := by
  have h60 := hTT.1
  have hL := KL_le i hi
  unfold f_M_isWord
  simp only [J_lit]
  rw [h16, J_mul, J_inb (by omega), gd_d (by omega), J_nat (by omega), ok_bnd]
  unfold f_M_isWord_14
  refine iter_up 0 (KL i - s) (fun n z => ∃ d5, z = (J n, d5) ∧ lk N t i p (s + n) = s + n ∧ d5 292 14 = J (p + (s + n)) ∧ frT m d d5 ∧ d5 299 (5 * m) = J i) ⟨_, rfl, hlk, by rw [wr_k (by decide)]; exact h2, ⟨fun k h1 h2 => wr_k h2, fun j _ => by rw [wr_k (by decide)], fun q hq => wr_j (by omega)⟩, wr_s⟩ (Nat.zero_le _) (by omega) ?_ ?_
  · intro n z hn hz
    obtain ⟨d5, rfl, z1, z2, z3, z4⟩ := hz
    have T5 := z3.tm hT
    have hle := lk_full (s + n) z1 hp
    have hk := KW_lt i hi (s + n) (by omega)
    unfold st_M_isWord_14
    simp only [J_lit]
    rw [hlen, ob1_s, if_n (fun q => by have := (J_le (by omega) (by omega)).mp q; omega), hat n d5 hn, ob1_s, M_skips T5 hTT z2 (by omega) hk, ok_ob2, ok_s]
    by_cases q : tx N t (p + (s + n)) (KW i (s + n)) = true
    · rw [if_p q]
      dsimp only
      rw [if_n n10, ok_s, J_add]
      refine Or.inl ⟨_, rfl, _, rfl, ?_, ?_, z3.trans frU_14.frT, by rw [wr_k (by decide)]; exact z4⟩
      · rw [← Nat.add_assoc]
        exact if_p ⟨z1, q⟩
      · rw [wr_s]
        congr 1
    · rw [if_n q]
      dsimp only
      rw [if_p rfl, ok_ir, ok_s]
      have e := lk_stop2 z1 q (m := KL i) (by omega)
      refine Or.inr ⟨_, rfl, ?_, ?_, z3, z4⟩
      · rw [e, if_n (by omega)]
      · rw [e]; exact z2
  · intro z hz
    obtain ⟨d5, rfl, z1, z2, z3, z4⟩ := hz
    unfold st_M_isWord_14
    simp only [J_lit]
    rw [hlen, ob1_s, if_p ((J_le (by omega) (by omega)).mpr (Nat.le_refl _)), ok_ir, ok_s]
    rw [show s + (KL i - s) = KL i by omega] at z1 z2
    refine ⟨_, rfl, ?_, ?_, z3, z4⟩
    · rw [z1, if_p rfl]
    · rw [z1]; exact z2
end READM
