/-! 57: a text of commands: what it says; the class reads its parts -/
section TEXT
variable {d d' d1 d2 : Dt} {N : Nat} {t : Nat → Nat} {p n k m c c' a i j x : Nat}
abbrev PR : Type := Bool × Nat × Nat × (Nat → Nat) × Nat
def tx (N : Nat) (t : Nat → Nat) (p c : Nat) : Bool := decide (p < N) && (t p == c)
def dig (N : Nat) (t : Nat → Nat) (p : Nat) : Bool := decide (p < N) && (decide (48 ≤ t p) && decide (t p ≤ 57))
/-- the digits from p on, at most n; their value -/
def nd (N : Nat) (t : Nat → Nat) : Nat → Nat → Nat
  | 0, _ => 0
  | n + 1, p => if dig N t p then nd N t n (p + 1) + 1 else 0
def nv (N : Nat) (t : Nat → Nat) : Nat → Nat → Nat → Nat
  | 0, _, v => v
  | n + 1, p, v => if dig N t p then nv N t n (p + 1) (10 * v + (t p - 48)) else v
/-- a space, a number, one of two signs -/
def sS (N : Nat) (t : Nat → Nat) (r : PR) : PR := if r.1 = true then (if tx N t r.2.1 32 = true then (true, r.2.1 + 1, r.2.2) else (false, r.2)) else r
def sN (N : Nat) (t : Nat → Nat) (n : Nat) (r : PR) : PR := if r.1 = true then (if nd N t n r.2.1 = 0 then (false, r.2) else (true, r.2.1 + nd N t n r.2.1, r.2.2.1 + 1, updG r.2.2.2.1 r.2.2.1 (nv N t n r.2.1 0), r.2.2.2.2)) else r
def sO (N : Nat) (t : Nat → Nat) (c c' : Nat) (r : PR) : PR := if r.1 = true then (if tx N t r.2.1 c = true then (true, r.2.1 + 1, r.2.2.1, r.2.2.2.1, 1) else if tx N t r.2.1 c' = true then (true, r.2.1 + 1, r.2.2.1, r.2.2.2.1, 0) else (false, r.2.1, r.2.2.1, r.2.2.2.1, 0)) else r
def atE (N : Nat) (t : Nat → Nat) (p : Nat) : Bool := decide (N ≤ p) || tx N t p 59
def TT (N : Nat) (t : Nat → Nat) : Prop := N ≤ 60 ∧ ∀ j, j < N → t j < 65536
theorem tx_iff : tx N t p c = true ↔ p < N ∧ t p = c := by
  unfold tx
  rw [Bool.and_eq_true, decide_eq_true_iff, beq_iff_eq]
theorem dig_iff : dig N t p = true ↔ p < N ∧ 48 ≤ t p ∧ t p ≤ 57 := by
  unfold dig
  rw [Bool.and_eq_true, decide_eq_true_iff, Bool.and_eq_true, decide_eq_true_iff, decide_eq_true_iff]
theorem nd_le : ∀ n p, p ≤ N → p + nd N t n p ≤ N ∧ nd N t n p ≤ n := by
  intro n
  induction n with
  | zero => intro p hp; exact ⟨hp, Nat.le_refl _⟩
  | succ n ih =>
    intro p hp
    show p + (if dig N t p then nd N t n (p + 1) + 1 else 0) ≤ N ∧ (if dig N t p then nd N t n (p + 1) + 1 else 0) ≤ n + 1
    by_cases h : dig N t p = true
    · have := ih (p + 1) (dig_iff.mp h).1
      rw [if_p h]
      omega
    · rw [if_n h]
      omega
theorem sS_le {r : PR} (h : r.2.1 ≤ N) : (sS N t r).2.1 ≤ N := by
  unfold sS
  by_cases h1 : r.1 = true
  · rw [if_p h1]
    by_cases h2 : tx N t r.2.1 32 = true
    · rw [if_p h2]; exact (tx_iff.mp h2).1
    · rw [if_n h2]; exact h
  · rw [if_n h1]; exact h
theorem sN_le {r : PR} (h : r.2.1 ≤ N) : (sN N t n r).2.1 ≤ N := by
  unfold sN
  by_cases h1 : r.1 = true
  · rw [if_p h1]
    by_cases h2 : nd N t n r.2.1 = 0
    · rw [if_p h2]; exact h
    · rw [if_n h2]; exact (nd_le n _ h).1
  · rw [if_n h1]; exact h
theorem sO_le {r : PR} (h : r.2.1 ≤ N) : (sO N t c c' r).2.1 ≤ N := by
  unfold sO
  by_cases h1 : r.1 = true
  · rw [if_p h1]
    by_cases h2 : tx N t r.2.1 c = true
    · rw [if_p h2]; exact (tx_iff.mp h2).1
    · rw [if_n h2]
      by_cases h3 : tx N t r.2.1 c' = true
      · rw [if_p h3]; exact (tx_iff.mp h3).1
      · rw [if_n h3]; exact h
  · rw [if_n h1]; exact h
theorem sS_f {r : PR} (h : r.1 = false) : sS N t r = r := by unfold sS; rw [if_n (by rw [h]; decide)]
theorem sN_f {r : PR} (h : r.1 = false) : sN N t n r = r := by unfold sN; rw [if_n (by rw [h]; decide)]
theorem sO_f {r : PR} (h : r.1 = false) : sO N t c c' r = r := by unfold sO; rw [if_n (by rw [h]; decide)]
/-- the class's reading: the text; place, numbers, choice -/
def TC (d : Dt) (N : Nat) (t : Nat → Nat) : Prop := d 287 1 = J N ∧ ∀ j, j < N → d 288 j = J (t j)
def CI (d : Dt) (N : Nat) (t : Nat → Nat) (r : PR) : Prop := TC d N t ∧ d 287 2 = J r.2.1 ∧ d 287 5 = J r.2.2.1 ∧ (∀ j, j < r.2.2.1 → d 289 j = J (r.2.2.2.1 j)) ∧ (r.2.2.2.2 = 2 ∨ d 287 6 = J r.2.2.2.2)
def frI (d d' : Dt) : Prop := (∀ k, k ≠ 287 → k ≠ 289 → d' k = d k) ∧ ∀ j, j ≠ 2 → j ≠ 5 → j ≠ 6 → d' 287 j = d 287 j
theorem frI.refl : frI d d := ⟨fun _ _ _ => rfl, fun _ _ _ _ => rfl⟩
theorem frI.trans (h : frI d d1) (h2 : frI d1 d2) : frI d d2 := ⟨fun k h3 h4 => (h2.1 k h3 h4).trans (h.1 k h3 h4), fun j a1 a2 a3 => (h2.2 j a1 a2 a3).trans (h.2 j a1 a2 a3)⟩
theorem frI.tc (h : frI d d1) (hT : TC d N t) : TC d1 N t := ⟨by rw [h.2 1 (by decide) (by decide) (by decide)]; exact hT.1, fun j hj => by rw [h.1 288 (by decide) (by decide)]; exact hT.2 j hj⟩
theorem frI_2 {v : Int32} : frI d (wr d 287 2 v) := ⟨fun k h1 _ => wr_k h1, fun j h2 _ _ => wr_j h2⟩
theorem I_char (hT : TC d N t) (hTT : TT N t) (h2 : d 287 2 = J p) (hp : p ≤ N) (hc : c < 65536) : f_I_readCharacter (J c) d = some (if tx N t p c = true then (J 1, wr d 287 2 (J (p + 1))) else (J 0, d)) := by
  have h60 := hTT.1
  unfold f_I_readCharacter
  simp only [J_lit]
  rw [hT.1, h2]
  by_cases q : p < N
  · have htp := hTT.2 p q
    rw [if_n (fun u => by have := (J_le (by omega) (by omega)).mp u; omega), J_inb (by omega), gd_d (by omega), J_nat (by omega), hT.2 p q]
    by_cases q2 : t p = c
    · rw [if_p (by rw [q2]), if_p (tx_iff.mpr ⟨q, q2⟩), J_add]
      rfl
    · rw [if_n (J_ne q2 (by omega) (by omega)), if_n (fun u => q2 (tx_iff.mp u).2)]
  · rw [if_p ((J_le (by omega) (by omega)).mpr (by omega)), if_n (fun u => q (tx_iff.mp u).1)]
theorem I_end (hT : TC d N t) (hTT : TT N t) (h2 : d 287 2 = J p) (hp : p ≤ N) : f_I_isAtEnd d = some (J (if atE N t p = true then 1 else 0)) := by
  have h60 := hTT.1
  unfold f_I_isAtEnd atE
  simp only [J_lit]
  rw [hT.1, h2]
  by_cases q : p < N
  · have htp := hTT.2 p q
    rw [if_n (fun u => by have := (J_le (by omega) (by omega)).mp u; omega), J_inb (by omega), gd_d (by omega), J_nat (by omega), hT.2 p q, decide_eq_false (show ¬ N ≤ p by omega), Bool.false_or]
    by_cases q2 : t p = 59
    · rw [if_p (by rw [q2]), if_p (tx_iff.mpr ⟨q, q2⟩)]
    · rw [if_n (J_ne q2 (by omega) (by decide)), if_n (fun u => q2 (tx_iff.mp u).2)]
  · rw [if_p ((J_le (by omega) (by omega)).mpr (by omega)), decide_eq_true (show N ≤ p by omega), Bool.true_or, if_p rfl]
theorem I_digit (h : x < 65536) : f_I_isDigit (J x) d = some (J (if 48 ≤ x ∧ x ≤ 57 then 1 else 0)) := by
  unfold f_I_isDigit
  simp only [J_lit]
  by_cases q : x < 48
  · rw [if_p ((J_lt (by omega) (by omega)).mpr q), if_n (by omega)]
  · rw [if_n (fun u => q ((J_lt (by omega) (by omega)).mp u))]
    by_cases q2 : 57 < x
    · rw [if_p ((J_lt (by omega) (by omega)).mpr q2), if_n (by omega)]
    · rw [if_n (fun u => q2 ((J_lt (by omega) (by omega)).mp u)), if_p (by omega)]
theorem I_num {r : PR} (h : CI d N t r) (hTT : TT N t) (hr : r.1 = true) (hp : r.2.1 ≤ N) (hc : r.2.2.1 < 4) (hn : n ≤ 9) : ok (f_I_readNumber (J n) d) (fun z => z.1 = J (if (sN N t n r).1 = true then 1 else 0) ∧ CI z.2 N t (sN N t n r) ∧ frI d z.2) := by
  have h60 := hTT.1
  obtain ⟨hT, h2, h5, h289, h6⟩ := h
  have fin : ∀ i v d5, d5 287 2 = J (r.2.1 + i) → frI d d5 → (∀ j, j ≠ 2 → d5 287 j = d 287 j) → d5 289 = d 289 → nd N t n r.2.1 = i → nv N t n r.2.1 0 = v → i ≤ 9 → ok (f_I_readNumber_69 (J v) (J i) d5) (fun z => z.1 = J (if (sN N t n r).1 = true then 1 else 0) ∧ CI z.2 N t (sN N t n r) ∧ frI d z.2) := by
    intro i v d5 e2 f5 e287 e289 en ev hi
    have T5 := f5.tc hT
    have ec : d5 287 5 = J r.2.2.1 := by rw [e287 5 (by decide)]; exact h5
    unfold f_I_readNumber_69 sN CI
    simp only [J_lit]
    rw [if_p hr, en, ev]
    by_cases q : i = 0
    · rw [if_p (by rw [q]), if_p q, ok_s]
      dsimp only
      refine ⟨rfl, ⟨T5, ?_, ec, fun j hj => by rw [e289]; exact h289 j hj, ?_⟩, f5⟩
      · rw [e2, q]; rfl
      · rw [e287 6 (by decide)]; exact h6
    · rw [if_n (J_ne q (by omega) (by decide)), if_n q, ec, if_p ((J_lt (by omega) (by omega)).mpr hc), J_inb (by omega), gd_d (by omega), ok_bnd, wr_k (show 287 ≠ 289 by decide), ec, J_add, J_nat (by omega), ok_bnd, ok_s]
      dsimp only
      have fw : frI d5 (wr (wr d5 289 r.2.2.1 (J v)) 287 5 (J (r.2.2.1 + 1))) := ⟨fun k h1 h2 => by rw [wr_k h1, wr_k h2], fun j _ h5 _ => by rw [wr_j h5, wr_k (by decide)]⟩
      refine ⟨rfl, ⟨fw.tc T5, ?_, wr_s, fun j hj => ?_, ?_⟩, f5.trans fw⟩
      · show wr (wr d5 289 r.2.2.1 (J v)) 287 5 (J (r.2.2.1 + 1)) 287 2 = J (r.2.1 + i)
        rw [wr_j (by decide), wr_k (by decide), e2]
      · show wr (wr d5 289 r.2.2.1 (J v)) 287 5 (J (r.2.2.1 + 1)) 289 j = J (updG r.2.2.2.1 r.2.2.1 v j)
        have hj2 : j < r.2.2.1 + 1 := hj
        rw [wr_k (by decide), wr_i]
        by_cases u : j = r.2.2.1
        · rw [if_p u, u, updG_s]
        · rw [if_n u, updG_n u, e289]
          exact h289 j (by omega)
      · show r.2.2.2.2 = 2 ∨ wr (wr d5 289 r.2.2.1 (J v)) 287 5 (J (r.2.2.1 + 1)) 287 6 = J r.2.2.2.2
        rw [wr_j (by decide), wr_k (by decide), e287 6 (by decide)]
        exact h6
  unfold f_I_readNumber f_I_readNumber_4
  simp only [J_lit]
  refine iter_up 0 n (fun i z => ∃ v d5, z = (J v, J i, d5) ∧ d5 287 2 = J (r.2.1 + i) ∧ frI d d5 ∧ (∀ j, j ≠ 2 → d5 287 j = d 287 j) ∧ d5 289 = d 289 ∧ r.2.1 + i ≤ N ∧ nd N t n r.2.1 = i + nd N t (n - i) (r.2.1 + i) ∧ nv N t n r.2.1 0 = nv N t (n - i) (r.2.1 + i) v) ⟨0, d, rfl, h2, frI.refl, fun _ _ => rfl, rfl, hp, by rw [Nat.sub_zero, Nat.zero_add]; rfl, rfl⟩ (Nat.zero_le _) (by omega) ?_ ?_
  · intro i z hi hz
    obtain ⟨v, d5, rfl, e2, f5, e287, e289, hle, en, ev⟩ := hz
    have T5 := f5.tc hT
    have es : n - i = (n - (i + 1)) + 1 := by omega
    have end0 : ¬ dig N t (r.2.1 + i) = true → nd N t n r.2.1 = i ∧ nv N t n r.2.1 0 = v := fun q => by
      rw [es] at en ev
      have e1 : nd N t ((n - (i + 1)) + 1) (r.2.1 + i) = 0 := if_n q
      have e3 : nv N t ((n - (i + 1)) + 1) (r.2.1 + i) v = v := if_n q
      exact ⟨by omega, by rw [ev, e3]⟩
    unfold st_I_readNumber_4
    simp only [J_lit]
    rw [if_n (fun q => by have := (J_le (by omega) (by omega)).mp q; omega), T5.1, e2]
    by_cases q : r.2.1 + i < N
    · have htp := hTT.2 _ q
      rw [if_n (fun u => by have := (J_le (by omega) (by omega)).mp u; omega), J_inb (by omega), gd_d (by omega), J_nat (by omega), T5.2 _ q, I_digit htp, ob1_s]
      by_cases q2 : 48 ≤ t (r.2.1 + i) ∧ t (r.2.1 + i) ≤ 57
      · have hd : dig N t (r.2.1 + i) = true := dig_iff.mpr ⟨q, q2⟩
        rw [if_p q2, if_n n10, gd_d (by omega), J_add, ok_bnd, ok_s, J_mul, J_sub q2.1, J_add, J_add]
        rw [es] at en ev
        have e1 : nd N t ((n - (i + 1)) + 1) (r.2.1 + i) = nd N t (n - (i + 1)) (r.2.1 + i + 1) + 1 := if_p hd
        have e3 : nv N t ((n - (i + 1)) + 1) (r.2.1 + i) v = nv N t (n - (i + 1)) (r.2.1 + i + 1) (10 * v + (t (r.2.1 + i) - 48)) := if_p hd
        refine Or.inl ⟨_, rfl, _, _, rfl, wr_s, f5.trans frI_2, fun j hj => by rw [wr_j hj]; exact e287 j hj, by rw [wr_k (by decide)]; exact e289, by omega, ?_, ?_⟩
        · rw [en, e1, show r.2.1 + (i + 1) = r.2.1 + i + 1 by omega]
          omega
        · rw [ev, e3, show r.2.1 + (i + 1) = r.2.1 + i + 1 by omega, Nat.mul_comm 10 v]
      · rw [if_n q2, if_p rfl, ok_ir]
        obtain ⟨a1, a2⟩ := end0 (fun u => q2 (dig_iff.mp u).2)
        exact ok_mono (fin i v d5 e2 f5 e287 e289 a1 a2 (by omega)) (fun z hz => Or.inr ⟨z, rfl, hz⟩)
    · rw [if_p ((J_le (by omega) (by omega)).mpr (by omega)), ok_ir]
      obtain ⟨a1, a2⟩ := end0 (fun u => q (dig_iff.mp u).1)
      exact ok_mono (fin i v d5 e2 f5 e287 e289 a1 a2 (by omega)) (fun z hz => Or.inr ⟨z, rfl, hz⟩)
  · intro z hz
    obtain ⟨v, d5, rfl, e2, f5, e287, e289, hle, en, ev⟩ := hz
    unfold st_I_readNumber_4
    simp only [J_lit]
    rw [if_p ((J_le (by omega) (by omega)).mpr (Nat.le_refl _)), ok_ir]
    rw [Nat.sub_self] at en ev
    exact ok_mono (fin n v d5 e2 f5 e287 e289 en ev hn) (fun z hz => ⟨z, rfl, hz⟩)
/-- one part of a form -/
def part (N : Nat) (t : Nat → Nat) (c : Nat) (r : PR) : PR := if c = 32 then sS N t r else if c = 43 then sO N t 43 45 r else if c = 103 then sO N t 103 105 r else sN N t (c - 48) r
theorem I_one {r : PR} (h : CI d N t r) (hTT : TT N t) (hr : r.1 = true) (hp : r.2.1 ≤ N) (hc : c < 65536) (hc' : c' < 65536) : ok (ob2 (f_I_readCharacter (J c) d) fun r8 d9 => gd (nar .boolean r8) <| bnd (wr d9 287 6 r8) fun d10 => if (d10 287 6) = J 0 then ob2 (f_I_readCharacter (J c') d10) fun r11 d12 => if r11 = J 0 then some (J 0, d12) else some (J 1, d12) else some (J 1, d10)) (fun z => z.1 = J (if (sO N t c c' r).1 = true then 1 else 0) ∧ CI z.2 N t (sO N t c c' r) ∧ frI d z.2) := by
  obtain ⟨hT, h2, h5, h289, h6⟩ := h
  have f6 : ∀ v : Int32, ∀ d0, frI d0 (wr d0 287 6 v) := fun v d0 => ⟨fun k h1 _ => wr_k h1, fun j _ _ h6 => wr_j h6⟩
  unfold sO CI
  rw [if_p hr, I_char hT hTT h2 hp hc, ok_ob2]
  by_cases q : tx N t r.2.1 c = true
  · rw [if_p q, if_p q, ok_s, gd_t1 (nar01 (t := 1) (by decide)), ok_bnd, wr_s, if_n n10, ok_s]
    dsimp only
    refine ⟨rfl, ⟨(f6 _ _).tc (frI_2.tc hT), ?_, ?_, fun j hj => ?_, Or.inr wr_s⟩, frI_2.trans (f6 _ _)⟩
    · show wr (wr d 287 2 (J (r.2.1 + 1))) 287 6 (J 1) 287 2 = J (r.2.1 + 1)
      rw [wr_j (by decide), wr_s]
    · show wr (wr d 287 2 (J (r.2.1 + 1))) 287 6 (J 1) 287 5 = J r.2.2.1
      rw [wr_j (by decide), wr_j (by decide)]; exact h5
    · rw [wr_k (by decide), wr_k (by decide)]; exact h289 j hj
  · rw [if_n q, if_n q, ok_s, gd_t1 (nar01 (t := 0) (by decide)), ok_bnd, wr_s, if_p rfl]
    have T1 := (f6 (J 0) d).tc hT
    rw [I_char T1 hTT (by rw [wr_j (by decide)]; exact h2) hp hc', ok_ob2]
    by_cases q2 : tx N t r.2.1 c' = true
    · rw [if_p q2, if_p q2, ok_s, if_n n10, ok_s]
      dsimp only
      refine ⟨rfl, ⟨frI_2.tc T1, ?_, ?_, fun j hj => ?_, ?_⟩, (f6 _ _).trans frI_2⟩
      · exact wr_s
      · show wr (wr d 287 6 (J 0)) 287 2 (J (r.2.1 + 1)) 287 5 = J r.2.2.1
        rw [wr_j (by decide), wr_j (by decide)]; exact h5
      · rw [wr_k (by decide), wr_k (by decide)]; exact h289 j hj
      · refine Or.inr ?_
        rw [wr_j (by decide), wr_s]
    · rw [if_n q2, if_n q2, ok_s, if_p rfl, ok_s]
      dsimp only
      refine ⟨rfl, ⟨T1, ?_, ?_, fun j hj => ?_, Or.inr wr_s⟩, f6 _ _⟩
      · rw [wr_j (by decide)]; exact h2
      · show wr d 287 6 (J 0) 287 5 = J r.2.2.1
        rw [wr_j (by decide)]; exact h5
      · rw [wr_k (by decide)]; exact h289 j hj
theorem I_part {r : PR} (h : CI d N t r) (hTT : TT N t) (hr : r.1 = true) (hp : r.2.1 ≤ N) (hc : c = 32 ∨ c = 43 ∨ c = 103 ∨ (48 ≤ c ∧ c ≤ 57 ∧ r.2.2.1 < 4)) : ok (f_I_readPart (J c) d) (fun z => z.1 = J (if (part N t c r).1 = true then 1 else 0) ∧ CI z.2 N t (part N t c r) ∧ frI d z.2) := by
  unfold f_I_readPart part
  simp only [J_lit]
  by_cases q1 : c = 32
  · subst q1
    obtain ⟨hT, h2, h5, h289, h6⟩ := h
    rw [if_p rfl, if_p rfl, I_char hT hTT h2 hp (by decide), ok_ob2]
    unfold sS CI
    rw [if_p hr]
    by_cases q : tx N t r.2.1 32 = true
    · rw [if_p q, if_p q, ok_s, gd_t1 (nar01 (t := 1) (by decide)), ok_s]
      dsimp only
      refine ⟨rfl, ⟨frI_2.tc hT, wr_s, ?_, fun j hj => ?_, ?_⟩, frI_2⟩
      · rw [wr_j (by decide)]; exact h5
      · rw [wr_k (by decide)]; exact h289 j hj
      · rw [wr_j (by decide)]; exact h6
    · rw [if_n q, if_n q, ok_s, gd_t1 (nar01 (t := 0) (by decide)), ok_s]
      exact ⟨rfl, ⟨hT, h2, h5, h289, h6⟩, frI.refl⟩
  · have hlt : c < 65536 := by omega
    rw [if_n (J_ne q1 (by omega) (by decide)), if_n q1]
    by_cases q2 : c = 43
    · subst q2
      rw [if_p rfl, if_p rfl]
      exact I_one h hTT hr hp (by decide) (by decide)
    · rw [if_n (J_ne q2 (by omega) (by decide)), if_n q2]
      by_cases q3 : c = 103
      · subst q3
        rw [if_p rfl, if_p rfl]
        exact I_one h hTT hr hp (by decide) (by decide)
      · have hc2 : 48 ≤ c ∧ c ≤ 57 ∧ r.2.2.1 < 4 := by
          rcases hc with hc | hc | hc | hc
          · exact absurd hc q1
          · exact absurd hc q2
          · exact absurd hc q3
          · exact hc
        rw [if_n (J_ne q3 (by omega) (by decide)), if_n q3, J_sub hc2.1, ok_ob2]
        refine ok_mono (I_num h hTT hr hp hc2.2.2 (n := c - 48) (by omega)) (fun z hz => ?_)
        rw [hz.1]
        by_cases q : (sN N t (c - 48) r).1 = true
        · rw [if_p q, gd_t1 (nar01 (t := 1) (by decide)), ok_s]
          exact ⟨rfl, hz.2⟩
        · rw [if_n q, gd_t1 (nar01 (t := 0) (by decide)), ok_s]
          exact ⟨rfl, hz.2⟩
end TEXT
