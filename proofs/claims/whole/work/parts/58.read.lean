/-! 58: the class reads a command -/
section READ
variable {d d' d1 d2 : Dt} {N : Nat} {t : Nat → Nat} {p q n k m c i j x : Nat}
/-- keywords and forms -/
def kwT : List (List Nat) := [[108, 97, 110, 116, 101, 114, 110], [102, 105, 108, 101], [99, 97, 110, 99, 101, 108], [115, 97, 121], [100, 114, 111, 112], [97, 100, 109, 105, 116], [102, 114, 101, 101], [119, 97, 105, 116]]
def fmT : List (List Nat) := [[], [32, 49, 32, 50, 32, 50, 32, 49], [32, 51], [32, 49, 49, 43], [32, 50], [32, 49, 32, 103], [32, 49], [63, 32, 49]]
def KW (i j : Nat) : Nat := (kwT.getD i []).getD j 0
def KL (i : Nat) : Nat := (kwT.getD i []).length
def FM (i j : Nat) : Nat := (fmT.getD i []).getD j 0
def FL (i : Nat) : Nat := (fmT.getD i []).length
theorem kw_all : (∀ i, i < 8 → f_JS_length (kwS i) (fun _ _ => 0) = some (J (KL i)) ∧ f_JS_length (fmS i) (fun _ _ => 0) = some (J (FL i))) ∧ (∀ i, i < 8 → ∀ j, j < KL i → f_JS_charAt (kwS i) (J j) (fun _ _ => 0) = some (J (KW i j))) ∧ (∀ i, i < 8 → ∀ j, j < FL i → f_JS_charAt (fmS i) (J j) (fun _ _ => 0) = some (J (FM i j))) := by decide +kernel
theorem kw_len (hi : i < 8) : f_JS_length (kwS i) d = some (J (KL i)) := (kw_all.1 i hi).1
theorem fm_len (hi : i < 8) : f_JS_length (fmS i) d = some (J (FL i)) := (kw_all.1 i hi).2
theorem kw_at (hi : i < 8) (hj : j < KL i) : f_JS_charAt (kwS i) (J j) d = some (J (KW i j)) := kw_all.2.1 i hi j hj
theorem fm_at (hi : i < 8) (hj : j < FL i) : f_JS_charAt (fmS i) (J j) d = some (J (FM i j)) := kw_all.2.2 i hi j hj
theorem KL_le : ∀ i, i < 8 → 3 ≤ KL i ∧ KL i ≤ 7 := by decide
theorem KW_lt : ∀ i, i < 8 → ∀ j, j < KL i → KW i j < 65536 := by decide
/-- how many letters of keyword i stand at p -/
def lk (N : Nat) (t : Nat → Nat) (i p : Nat) : Nat → Nat
  | 0 => 0
  | n + 1 => if lk N t i p n = n ∧ tx N t (p + n) (KW i n) = true then n + 1 else lk N t i p n
theorem lk_le : ∀ n, lk N t i p n ≤ n := by
  intro n
  induction n with
  | zero => exact Nat.le_refl _
  | succ n ih =>
    show (if lk N t i p n = n ∧ tx N t (p + n) (KW i n) = true then n + 1 else lk N t i p n) ≤ n + 1
    by_cases h : lk N t i p n = n ∧ tx N t (p + n) (KW i n) = true
    · rw [if_p h]; exact Nat.le_refl _
    · rw [if_n h]; omega
theorem lk_mono : lk N t i p n ≤ lk N t i p (n + 1) := by
  show _ ≤ (if lk N t i p n = n ∧ tx N t (p + n) (KW i n) = true then n + 1 else lk N t i p n)
  by_cases h : lk N t i p n = n ∧ tx N t (p + n) (KW i n) = true
  · rw [if_p h]; omega
  · rw [if_n h]; exact Nat.le_refl _
theorem lk_up : ∀ k, lk N t i p n ≤ lk N t i p (n + k) := by
  intro k
  induction k with
  | zero => exact Nat.le_refl _
  | succ k ih => exact Nat.le_trans ih lk_mono
theorem lk_stop (h : lk N t i p n = n) (h2 : ¬ tx N t (p + n) (KW i n) = true) : ∀ k, lk N t i p (n + 1 + k) = n := by
  intro k
  induction k with
  | zero =>
    show (if lk N t i p n = n ∧ tx N t (p + n) (KW i n) = true then n + 1 else lk N t i p n) = n
    rw [if_n (fun u => h2 u.2), h]
  | succ k ih =>
    show (if lk N t i p (n + 1 + k) = n + 1 + k ∧ tx N t (p + (n + 1 + k)) (KW i (n + 1 + k)) = true then n + 1 + k + 1 else lk N t i p (n + 1 + k)) = n
    rw [if_n (fun u => by omega), ih]
theorem lk_stop2 (h : lk N t i p n = n) (h2 : ¬ tx N t (p + n) (KW i n) = true) (hm : n < m) : lk N t i p m = n := by
  have := lk_stop h h2 (m - (n + 1))
  rwa [show n + 1 + (m - (n + 1)) = m by omega] at this
theorem lk_full : ∀ n, lk N t i p n = n → p ≤ N → p + n ≤ N := by
  intro n
  induction n with
  | zero => intro _ h; exact h
  | succ n ih =>
    intro h hp
    have e : (if lk N t i p n = n ∧ tx N t (p + n) (KW i n) = true then n + 1 else lk N t i p n) = n + 1 := h
    by_cases q : lk N t i p n = n ∧ tx N t (p + n) (KW i n) = true
    · have := (tx_iff.mp q.2).1
      omega
    · rw [if_n q] at e
      have := lk_le (N := N) (t := t) (i := i) (p := p) n
      omega
theorem lk_in (hp : p ≤ N) : ∀ n, p + lk N t i p n ≤ N := by
  intro n
  induction n with
  | zero => exact hp
  | succ n ih =>
    show p + (if lk N t i p n = n ∧ tx N t (p + n) (KW i n) = true then n + 1 else lk N t i p n) ≤ N
    by_cases h : lk N t i p n = n ∧ tx N t (p + n) (KW i n) = true
    · rw [if_p h]
      have := (tx_iff.mp h.2).1
      omega
    · rw [if_n h]; exact ih
theorem I_letters (hT : TC d N t) (hTT : TT N t) (h2 : d 287 2 = J p) (hp : p ≤ N) (hi : i < 8) : f_I_lettersInCommon (kwS i) d = some (J (lk N t i p (KL i))) := by
  have h60 := hTT.1
  have hL := KL_le i hi
  apply ok_eq
  unfold f_I_lettersInCommon f_I_lettersInCommon_2
  simp only [J_lit]
  refine iter_up 0 (KL i) (fun n z => z = J n ∧ lk N t i p n = n) ⟨rfl, rfl⟩ (Nat.zero_le _) (by omega) ?_ ?_
  · intro n z hn hz
    obtain ⟨rfl, hz⟩ := hz
    have hk := KW_lt i hi n hn
    unfold st_I_lettersInCommon_2
    rw [kw_len hi, ob1_s, if_n (fun q => by have := (J_le (by omega) (by omega)).mp q; omega), hT.1, h2, J_add, kw_at hi hn, ob1_s]
    simp only [J_lit]
    by_cases q : p + n < N
    · have htp := hTT.2 _ q
      rw [if_n (fun u => by have := (J_le (by omega) (by omega)).mp u; omega), J_inb (by omega), gd_d (by omega), J_nat (by omega), hT.2 _ q]
      by_cases q2 : t (p + n) = KW i n
      · rw [if_p (by rw [q2]), ok_s, J_add]
        refine Or.inl ⟨_, rfl, rfl, ?_⟩
        exact if_p ⟨hz, tx_iff.mpr ⟨q, q2⟩⟩
      · rw [if_n (J_ne q2 (by omega) (by omega)), ok_ir, ok_s]
        refine Or.inr ⟨_, rfl, ?_⟩
        rw [lk_stop2 hz (fun u => q2 (tx_iff.mp u).2) hn]
    · rw [if_p ((J_le (by omega) (by omega)).mpr (by omega)), ok_ir, ok_s]
      refine Or.inr ⟨_, rfl, ?_⟩
      rw [lk_stop2 hz (fun u => q (tx_iff.mp u).1) hn]
  · intro z hz
    obtain ⟨rfl, hz⟩ := hz
    unfold st_I_lettersInCommon_2
    rw [kw_len hi, ob1_s, if_p ((J_le (by omega) (by omega)).mpr (Nat.le_refl _)), ok_ir, ok_s, hz]
    exact ⟨_, rfl, rfl⟩
/-- the kind that the first letters decide -/
def kd (N : Nat) (t : Nat → Nat) (p : Nat) : Nat := if tx N t p 108 = true then 0 else if tx N t p 99 = true then 2 else if tx N t p 115 = true then 3 else if tx N t p 100 = true then 4 else if tx N t p 97 = true then 5 else if tx N t p 119 = true then 7 else if tx N t p 102 = true then (if tx N t (p + 1) 114 = true then 6 else 1) else 8
theorem tx_ne {c' : Nat} (h : tx N t p c = true) (hc : c ≠ c') : ¬ tx N t p c' = true := fun u => hc ((tx_iff.mp h).2.symm.trans (tx_iff.mp u).2)
theorem kd_of (hi : i < 8) (h : tx N t p (KW i 0) = true) : kd N t p = i ∨ ((i = 1 ∨ i = 6) ∧ (kd N t p = 1 ∨ kd N t p = 6)) := by
  have f : tx N t p 102 = true → kd N t p = 1 ∨ kd N t p = 6 := fun h => by
    unfold kd
    rw [if_n (tx_ne h (by decide)), if_n (tx_ne h (by decide)), if_n (tx_ne h (by decide)), if_n (tx_ne h (by decide)), if_n (tx_ne h (by decide)), if_n (tx_ne h (by decide)), if_p h]
    by_cases q : tx N t (p + 1) 114 = true
    · rw [if_p q]; exact Or.inr rfl
    · rw [if_n q]; exact Or.inl rfl
  rcases (by omega : i = 0 ∨ i = 1 ∨ i = 2 ∨ i = 3 ∨ i = 4 ∨ i = 5 ∨ i = 6 ∨ i = 7) with rfl | rfl | rfl | rfl | rfl | rfl | rfl | rfl
  · left; unfold kd; rw [if_p (show tx N t p 108 = true from h)]
  · exact Or.inr ⟨Or.inl rfl, f h⟩
  · have h : tx N t p 99 = true := h
    left; unfold kd; rw [if_n (tx_ne h (by decide)), if_p h]
  · have h : tx N t p 115 = true := h
    left; unfold kd; rw [if_n (tx_ne h (by decide)), if_n (tx_ne h (by decide)), if_p h]
  · have h : tx N t p 100 = true := h
    left; unfold kd; rw [if_n (tx_ne h (by decide)), if_n (tx_ne h (by decide)), if_n (tx_ne h (by decide)), if_p h]
  · have h : tx N t p 97 = true := h
    left; unfold kd; rw [if_n (tx_ne h (by decide)), if_n (tx_ne h (by decide)), if_n (tx_ne h (by decide)), if_n (tx_ne h (by decide)), if_p h]
  · exact Or.inr ⟨Or.inr rfl, f h⟩
  · have h : tx N t p 119 = true := h
    left; unfold kd; rw [if_n (tx_ne h (by decide)), if_n (tx_ne h (by decide)), if_n (tx_ne h (by decide)), if_n (tx_ne h (by decide)), if_n (tx_ne h (by decide)), if_p h]
theorem kd_le : kd N t p ≤ 8 := by
  unfold kd
  repeat' split
  all_goals decide
/-- the letter of the kind stands there -/
theorem kd_tx (h : kd N t p < 8) : tx N t p (KW (kd N t p) 0) = true := by
  unfold kd at h ⊢
  by_cases q1 : tx N t p 108 = true
  · rw [if_p q1]; exact q1
  · rw [if_n q1] at h ⊢
    by_cases q2 : tx N t p 99 = true
    · rw [if_p q2]; exact q2
    · rw [if_n q2] at h ⊢
      by_cases q3 : tx N t p 115 = true
      · rw [if_p q3]; exact q3
      · rw [if_n q3] at h ⊢
        by_cases q4 : tx N t p 100 = true
        · rw [if_p q4]; exact q4
        · rw [if_n q4] at h ⊢
          by_cases q5 : tx N t p 97 = true
          · rw [if_p q5]; exact q5
          · rw [if_n q5] at h ⊢
            by_cases q6 : tx N t p 119 = true
            · rw [if_p q6]; exact q6
            · rw [if_n q6] at h ⊢
              by_cases q7 : tx N t p 102 = true
              · rw [if_p q7]
                by_cases q8 : tx N t (p + 1) 114 = true
                · rw [if_p q8]; exact q7
                · rw [if_n q8]; exact q7
              · rw [if_n q7] at h
                exact absurd h (by decide)
theorem kd_2 (h : tx N t p 102 = true) : (kd N t p = 6 ∧ tx N t (p + 1) 114 = true) ∨ (kd N t p = 1 ∧ ¬ tx N t (p + 1) 114 = true) := by
  unfold kd
  rw [if_n (tx_ne h (by decide)), if_n (tx_ne h (by decide)), if_n (tx_ne h (by decide)), if_n (tx_ne h (by decide)), if_n (tx_ne h (by decide)), if_n (tx_ne h (by decide)), if_p h]
  by_cases q : tx N t (p + 1) 114 = true
  · rw [if_p q]; exact Or.inl ⟨rfl, q⟩
  · rw [if_n q]; exact Or.inr ⟨rfl, q⟩
theorem lk_1 (h : tx N t p (KW i 0) = true) : lk N t i p 1 = 1 := if_p ⟨rfl, h⟩
theorem lk_other (hi : i < 8) (h : i ≠ kd N t p) : lk N t i p (KL i) < KL i ∧ (lk N t i p (KL i) = 0 ∨ (lk N t i p (KL i) ≤ 1 ∧ kd N t p < 8)) := by
  have hL := KL_le i hi
  by_cases q : tx N t p (KW i 0) = true
  · rcases kd_of hi q with e | ⟨e1, e2⟩
    · exact absurd e.symm h
    · have h102 : tx N t p 102 = true := by
        rcases e1 with rfl | rfl
        · exact q
        · exact q
      have l1 := lk_1 q
      have hs : lk N t i p (KL i) = 1 := by
        refine lk_stop2 l1 (fun u => ?_) (by omega)
        rcases kd_2 h102 with ⟨k1, k2⟩ | ⟨k1, k2⟩
        · have hi1 : i = 1 := by omega
          subst hi1
          exact tx_ne k2 (by decide) (show tx N t (p + 1) 105 = true from u)
        · have hi6 : i = 6 := by omega
          subst hi6
          exact k2 u
      exact ⟨by omega, Or.inr ⟨by omega, by omega⟩⟩
  · have : lk N t i p (KL i) = 0 := lk_stop2 rfl q (by omega)
    exact ⟨by omega, Or.inl this⟩
/-- whether the keyword stands there in full; where its reading ends -/
def kwO (N : Nat) (t : Nat → Nat) (p : Nat) : Bool := decide (kd N t p < 8) && decide (lk N t (kd N t p) p (KL (kd N t p)) = KL (kd N t p))
def kwP (N : Nat) (t : Nat → Nat) (p : Nat) : Nat := if kd N t p < 8 then p + lk N t (kd N t p) p (KL (kd N t p)) else p
def mxl (N : Nat) (t : Nat → Nat) (p : Nat) : Nat → Nat
  | 0 => 0
  | i + 1 => max (mxl N t p i) (lk N t i p (KL i))
theorem mxl_ge : ∀ n, i < n → lk N t i p (KL i) ≤ mxl N t p n := by
  intro n
  induction n with
  | zero => intro h; omega
  | succ n ih =>
    intro h
    show _ ≤ max (mxl N t p n) (lk N t n p (KL n))
    rcases (by omega : i < n ∨ i = n) with u | rfl
    · have := ih u
      omega
    · omega
theorem mxl_le {M : Nat} (h : ∀ i, i < 8 → lk N t i p (KL i) ≤ M) : ∀ n, n ≤ 8 → mxl N t p n ≤ M := by
  intro n
  induction n with
  | zero => intro _; exact Nat.zero_le _
  | succ n ih =>
    intro hn
    have := ih (by omega)
    have := h n (by omega)
    show max (mxl N t p n) (lk N t n p (KL n)) ≤ M
    omega
theorem mxl_eq : p + mxl N t p 8 = kwP N t p := by
  unfold kwP
  by_cases q : kd N t p < 8
  · rw [if_p q]
    have h1 := mxl_ge (N := N) (t := t) (p := p) 8 q
    have hL := KL_le _ q
    have l1 := lk_1 (kd_tx q)
    have l2 := lk_up (N := N) (t := t) (i := kd N t p) (p := p) (n := 1) (KL (kd N t p) - 1)
    rw [show 1 + (KL (kd N t p) - 1) = KL (kd N t p) by omega] at l2
    have h2 := mxl_le (N := N) (t := t) (p := p) (M := lk N t (kd N t p) p (KL (kd N t p))) (fun i hi => by
      by_cases u : i = kd N t p
      · rw [u]; exact Nat.le_refl _
      · have := (lk_other hi u).2
        omega) 8 (Nat.le_refl _)
    omega
  · rw [if_n q]
    have h2 := mxl_le (N := N) (t := t) (p := p) (M := 0) (fun i hi => by
      have := (lk_other (N := N) (t := t) (p := p) hi (by omega)).2
      omega) 8 (Nat.le_refl _)
    omega
theorem mxl_lt : ∀ n, n ≤ 8 → mxl N t p n ≤ 7 := mxl_le (fun i hi => by
  have := KL_le i hi
  have := lk_le (N := N) (t := t) (i := i) (p := p) (KL i)
  omega)
theorem kwP_le (hp : p ≤ N) : kwP N t p ≤ N := by
  unfold kwP
  by_cases q : kd N t p < 8
  · rw [if_p q]; exact lk_in hp _
  · rw [if_n q]; exact hp
theorem I_keyword (hT : TC d N t) (hTT : TT N t) (h2 : d 287 2 = J p) (hp : p ≤ N) : f_I_readKeyword d = some (if kwO N t p = true then (J 1, wr (wr d 287 3 (J (kd N t p))) 287 2 (J (kwP N t p))) else (J 0, wr d 287 2 (J (kwP N t p)))) := by
  have h60 := hTT.1
  apply ok_eq
  unfold f_I_readKeyword f_I_readKeyword_4
  simp only [J_lit]
  refine iter_up 0 8 (fun n z => z = (J (mxl N t p n), J n) ∧ ∀ i, i < n → lk N t i p (KL i) ≠ KL i) ⟨rfl, fun i hi => absurd hi (Nat.not_lt_zero i)⟩ (by decide) (by decide) ?_ ?_
  · intro n z hn hz
    obtain ⟨rfl, hz⟩ := hz
    have hL := KL_le n hn
    have hlk := lk_le (N := N) (t := t) (i := n) (p := p) (KL n)
    have hm := mxl_lt (N := N) (t := t) (p := p) n (by omega)
    unfold st_I_readKeyword_4
    simp only [J_lit]
    rw [if_n (fun q => by have := (J_le (by omega) (by omega)).mp q; omega), J_inb (by omega), gd_d (by omega), J_nat (by omega), I_letters hT hTT h2 hp hn, ob1_s, kw_len hn, ob1_s]
    by_cases q : lk N t n p (KL n) = KL n
    · have hk : n = kd N t p := by
        apply Classical.byContradiction
        intro u
        have := (lk_other hn u).1
        omega
      have ho : kwO N t p = true := by
        unfold kwO
        rw [← hk, decide_eq_true hn, decide_eq_true q]
        rfl
      have hP : kwP N t p = p + KL n := by
        unfold kwP
        rw [← hk, if_p hn, q]
      rw [if_p (by rw [q]), gd_d (by omega), ok_ir, ok_bnd, wr_j (by decide), h2, J_add, ok_bnd, ok_s, if_p ho, hP, ← hk, q]
      exact Or.inr ⟨_, rfl, rfl⟩
    · rw [if_n (J_ne q (by omega) (by omega)), ok_s, mxI_J (by omega) (by omega), J_add]
      refine Or.inl ⟨_, rfl, rfl, fun i hi => ?_⟩
      rcases (by omega : i < n ∨ i = n) with u | rfl
      · exact hz i u
      · exact q
  · intro z hz
    obtain ⟨rfl, hz⟩ := hz
    have ho : ¬ kwO N t p = true := fun u => by
      unfold kwO at u
      rw [Bool.and_eq_true, decide_eq_true_iff, decide_eq_true_iff] at u
      exact hz _ u.1 u.2
    unfold st_I_readKeyword_4
    simp only [J_lit]
    rw [if_p (show J 8 ≤ J 8 by decide), ok_ir, h2, J_add, mxl_eq, ok_bnd, ok_s, if_n ho]
    exact ⟨_, rfl, rfl⟩
/-- the form of kind k from q on: its first n parts -/
def st0 (q : Nat) : PR := (true, q, 0, (fun _ => 1), 2)
def fo (N : Nat) (t : Nat → Nat) (k q : Nat) : Nat → PR
  | 0 => st0 q
  | n + 1 => part N t (FM k n) (fo N t k q n)
def wtR (N : Nat) (t : Nat → Nat) (q : Nat) : PR := if tx N t q 32 = true then sN N t 1 (sS N t (st0 q)) else (true, q, 1, (fun _ => 1), 2)
def foR (N : Nat) (t : Nat → Nat) (k q : Nat) : PR := if k = 7 then wtR N t q else fo N t k q (FL k)
def cmdR (N : Nat) (t : Nat → Nat) (p : Nat) : PR := if kwO N t p = true then foR N t (kd N t p) (kwP N t p) else (false, kwP N t p, 0, (fun _ => 1), 2)
theorem part_f {r : PR} (h : r.1 = false) : part N t c r = r := by
  unfold part
  rw [sS_f h, sO_f h, sO_f h, sN_f h, ite_self, ite_self, ite_self]
theorem part_le {r : PR} (h : r.2.1 ≤ N) : (part N t c r).2.1 ≤ N := by
  unfold part
  by_cases q1 : c = 32
  · rw [if_p q1]; exact sS_le h
  · rw [if_n q1]
    by_cases q2 : c = 43
    · rw [if_p q2]; exact sO_le h
    · rw [if_n q2]
      by_cases q3 : c = 103
      · rw [if_p q3]; exact sO_le h
      · rw [if_n q3]; exact sN_le h
theorem part_cnt {r : PR} : (part N t c r).2.2.1 ≤ r.2.2.1 + (if c = 32 ∨ c = 43 ∨ c = 103 then 0 else 1) := by
  unfold part
  by_cases q1 : c = 32
  · rw [if_p q1, if_p (Or.inl q1)]
    unfold sS
    repeat' split
    all_goals exact Nat.le_refl _
  · rw [if_n q1]
    by_cases q2 : c = 43
    · rw [if_p q2, if_p (Or.inr (Or.inl q2))]
      unfold sO
      repeat' split
      all_goals exact Nat.le_refl _
    · rw [if_n q2]
      by_cases q3 : c = 103
      · rw [if_p q3, if_p (Or.inr (Or.inr q3))]
        unfold sO
        repeat' split
        all_goals exact Nat.le_refl _
      · rw [if_n q3, if_n (by omega)]
        unfold sN
        repeat' split
        · exact Nat.le_succ _
        · exact Nat.le_refl _
        · exact Nat.le_succ _
def dct (k : Nat) : Nat → Nat
  | 0 => 0
  | n + 1 => dct k n + (if FM k n = 32 ∨ FM k n = 43 ∨ FM k n = 103 then 0 else 1)
theorem form_all : ∀ k, k < 7 → ∀ n, n < FL k → FM k n = 32 ∨ FM k n = 43 ∨ FM k n = 103 ∨ (48 ≤ FM k n ∧ FM k n ≤ 57 ∧ dct k n < 4) := by decide
theorem fo_cnt : ∀ n, (fo N t k q n).2.2.1 ≤ dct k n := by
  intro n
  induction n with
  | zero => exact Nat.le_refl _
  | succ n ih =>
    have := part_cnt (N := N) (t := t) (c := FM k n) (r := fo N t k q n)
    show (part N t (FM k n) (fo N t k q n)).2.2.1 ≤ dct k n + (if FM k n = 32 ∨ FM k n = 43 ∨ FM k n = 103 then 0 else 1)
    omega
theorem fo_le (h : q ≤ N) : ∀ n, (fo N t k q n).2.1 ≤ N := by
  intro n
  induction n with
  | zero => exact h
  | succ n ih => exact part_le ih
theorem fo_f (h : (fo N t k q n).1 = false) : ∀ m, fo N t k q (n + m) = fo N t k q n := by
  intro m
  induction m with
  | zero => rfl
  | succ m ih =>
    show part N t (FM k (n + m)) (fo N t k q (n + m)) = _
    rw [ih, part_f h]
theorem foR_le (h : q ≤ N) : (foR N t k q).2.1 ≤ N := by
  unfold foR
  by_cases u : k = 7
  · rw [if_p u]
    unfold wtR
    by_cases v : tx N t q 32 = true
    · rw [if_p v]; exact sN_le (sS_le h)
    · rw [if_n v]; exact h
  · rw [if_n u]; exact fo_le h _
theorem cmdR_le (h : p ≤ N) : (cmdR N t p).2.1 ≤ N := by
  unfold cmdR
  by_cases u : kwO N t p = true
  · rw [if_p u]; exact foR_le (kwP_le h)
  · rw [if_n u]; exact kwP_le h
/-- what is known after a command was read -/
def IR (N : Nat) (t : Nat → Nat) (d : Dt) (R : PR) (z : Int32 × Dt) : Prop := z.1 = J (if (R.1 && atE N t R.2.1) = true then 1 else 0) ∧ z.2 287 2 = J R.2.1 ∧ ((R.1 && atE N t R.2.1) = true → (∀ j, j < R.2.2.1 → z.2 289 j = J (R.2.2.2.1 j)) ∧ (R.2.2.2.2 = 2 ∨ z.2 287 6 = J R.2.2.2.2)) ∧ frI d z.2
theorem IR_end {R : PR} {d5 : Dt} (h : CI d5 N t R) (hTT : TT N t) (hR : R.1 = true) (hp : R.2.1 ≤ N) (hf : frI d d5) : ok (ob1 (f_I_isAtEnd d5) fun r2 => gd (nar .boolean r2) <| some (r2, d5)) (IR N t d R) := by
  rw [I_end h.1 hTT h.2.1 hp, ob1_s]
  have e : (R.1 && atE N t R.2.1) = atE N t R.2.1 := by rw [hR, Bool.true_and]
  by_cases q : atE N t R.2.1 = true
  · rw [if_p q, gd_t1 (nar01 (t := 1) (by decide)), ok_s]
    exact ⟨by rw [e, if_p q], h.2.1, fun _ => h.2.2.2, hf⟩
  · rw [if_n q, gd_t1 (nar01 (t := 0) (by decide)), ok_s]
    exact ⟨by rw [e, if_n q], h.2.1, fun u => absurd (e.symm.trans u) q, hf⟩
theorem IR_fail {R : PR} {d5 : Dt} (h : d5 287 2 = J R.2.1) (hR : R.1 = false) (hf : frI d d5) : IR N t d R (J 0, d5) := by
  have e : (R.1 && atE N t R.2.1) = false := by rw [hR, Bool.false_and]
  exact ⟨by rw [e, if_n (by decide)], h, fun u => (by rw [e] at u; cases u), hf⟩
theorem I_form (hT : TC d N t) (hTT : TT N t) (h2 : d 287 2 = J q) (hq : q ≤ N) (h3 : d 287 3 = J k) (hk : k < 8) (h5 : d 287 5 = J 0) (h9 : d 289 0 = J 1) : ok (f_I_readCommand_23 (J 0) d) (IR N t d (foR N t k q)) := by
  have h60 := hTT.1
  have hF : FL k ≤ 8 := by
    have h : ∀ k, k < 8 → FL k ≤ 8 := by decide
    exact h k hk
  have c0 : CI d N t (st0 q) := ⟨hT, h2, h5, fun j hj => absurd hj (Nat.not_lt_zero j), Or.inl rfl⟩
  unfold f_I_readCommand_23
  by_cases hk7 : k = 7
  · subst hk7
    have eR : foR N t 7 q = wtR N t q := if_p rfl
    rw [eR]
    refine iter_up 0 3 (fun n z => ∃ d5, z = (J n, d5) ∧ frI d d5 ∧ ((n = 0 ∧ d5 = d) ∨ (n = 1 ∧ d5 = d ∧ atE N t q = false) ∨ (n = 2 ∧ CI d5 N t (sS N t (st0 q)) ∧ tx N t q 32 = true) ∨ (n = 3 ∧ CI d5 N t (sN N t 1 (sS N t (st0 q))) ∧ tx N t q 32 = true ∧ (sN N t 1 (sS N t (st0 q))).1 = true))) ⟨d, rfl, frI.refl, Or.inl ⟨rfl, rfl⟩⟩ (by decide) (by decide) ?_ ?_
    · intro n z hn hz
      obtain ⟨d5, rfl, f5, hz⟩ := hz
      have e3 : d5 287 3 = J 7 := by rw [f5.2 3 (by decide) (by decide) (by decide)]; exact h3
      have hn3 : n < FL 7 := hn
      unfold st_I_readCommand_23
      simp only [J_lit]
      rw [e3, J_inb (by decide), gd_d (by decide), J_nat (by decide), fm_len (by decide), ob1_s, if_n (fun u => by have := (J_le (by omega) (by omega)).mp u; omega), gd_d (by decide), fm_at (by decide) hn3, ob1_s]
      rcases hz with ⟨rfl, rfl⟩ | ⟨rfl, rfl, ha⟩ | ⟨rfl, hc, ht⟩ | ⟨rfl, hc, ht, _⟩
      · rw [if_p (show J (FM 7 0) = J 63 by decide), I_end hT hTT h2 hq, ob1_s]
        by_cases u : atE N t q = true
        · have h32 : ¬ tx N t q 32 = true := fun v => by
            unfold atE at u
            rw [Bool.or_eq_true, decide_eq_true_iff] at u
            rcases u with u | u
            · have := (tx_iff.mp v).1
              omega
            · exact tx_ne v (by decide) u
          rw [if_p u, if_n n10, ok_ir, ok_s]
          refine Or.inr ⟨_, rfl, ?_⟩
          unfold wtR
          rw [if_n h32]
          refine ⟨?_, h2, fun _ => ⟨fun j hj => ?_, Or.inl rfl⟩, frI.refl⟩
          · show J 1 = J (if (true && atE N t q) = true then 1 else 0)
            rw [u]
            rfl
          · have hj0 : j = 0 := by
              have : j < 1 := hj
              omega
            rw [hj0]
            exact h9
        · rw [if_n u, if_p rfl, ok_s]
          rw [Bool.not_eq_true] at u
          exact Or.inl ⟨_, rfl, _, rfl, frI.refl, Or.inr (Or.inl ⟨rfl, rfl, u⟩)⟩
      · rw [if_n (show ¬ J (FM 7 1) = J 63 by decide), ok_ob2]
        refine ok_mono (I_part (c := FM 7 1) c0 hTT rfl hq (Or.inl (by decide))) (fun y hy => ?_)
        obtain ⟨y1, y2, y3⟩ := hy
        have ep : part N t (FM 7 1) (st0 q) = sS N t (st0 q) := rfl
        rw [ep] at y1 y2
        by_cases u : tx N t q 32 = true
        · have eS : (sS N t (st0 q)).1 = true := by
            unfold sS st0
            rw [if_p rfl, if_p u]
          rw [y1, if_p eS, if_n n10, ok_s]
          exact Or.inl ⟨_, rfl, y.2, rfl, y3, Or.inr (Or.inr (Or.inl ⟨rfl, y2, u⟩))⟩
        · have eS : sS N t (st0 q) = (false, (st0 q).2) := by
            unfold sS
            rw [if_p (show (st0 q).1 = true from rfl), if_n (show ¬ tx N t (st0 q).2.1 32 = true from u)]
          rw [y1, eS, if_n (show ¬ (false = true) by decide), if_p rfl, ok_ir, ok_s]
          refine Or.inr ⟨_, rfl, ?_⟩
          unfold wtR
          rw [if_n u]
          rw [eS] at y2
          refine ⟨?_, y2.2.1, fun v => ?_, y3⟩
          · show J 0 = J (if (true && atE N t q) = true then 1 else 0)
            rw [ha]
            rfl
          · have v : (true && atE N t q) = true := v
            rw [ha] at v
            cases v
      · rw [if_n (show ¬ J (FM 7 2) = J 63 by decide), ok_ob2]
        have eS : (sS N t (st0 q)) = (true, q + 1, (st0 q).2.2) := by
          unfold sS
          rw [if_p (show (st0 q).1 = true from rfl), if_p (show tx N t (st0 q).2.1 32 = true from ht)]
          rfl
        refine ok_mono (I_part (c := FM 7 2) hc hTT (by rw [eS]) (by rw [eS]; exact (tx_iff.mp ht).1) (Or.inr (Or.inr (Or.inr ⟨by decide, by decide, by rw [eS]; show 0 < 4; decide⟩)))) (fun y hy => ?_)
        obtain ⟨y1, y2, y3⟩ := hy
        have ep : part N t (FM 7 2) (sS N t (st0 q)) = sN N t 1 (sS N t (st0 q)) := rfl
        rw [ep] at y1 y2
        have eW : wtR N t q = sN N t 1 (sS N t (st0 q)) := if_p ht
        by_cases u : (sN N t 1 (sS N t (st0 q))).1 = true
        · rw [y1, if_p u, if_n n10, ok_s]
          exact Or.inl ⟨_, rfl, y.2, rfl, f5.trans y3, Or.inr (Or.inr (Or.inr ⟨rfl, y2, ht, u⟩))⟩
        · rw [y1, if_n u, if_p rfl, ok_ir, ok_s, eW]
          rw [Bool.not_eq_true] at u
          exact Or.inr ⟨_, rfl, IR_fail y2.2.1 u (f5.trans y3)⟩
      · omega
    · intro z hz
      obtain ⟨d5, rfl, f5, hz⟩ := hz
      have e3 : d5 287 3 = J 7 := by rw [f5.2 3 (by decide) (by decide) (by decide)]; exact h3
      rcases hz with ⟨h, _⟩ | ⟨h, _⟩ | ⟨h, _⟩ | ⟨_, hc, ht, hok⟩
      · exact absurd h (by decide)
      · exact absurd h (by decide)
      · exact absurd h (by decide)
      · unfold st_I_readCommand_23
        simp only [J_lit]
        rw [e3, J_inb (by decide), gd_d (by decide), J_nat (by decide), fm_len (by decide), ob1_s, if_p (show J (FL 7) ≤ J 3 by decide), ok_ir]
        have eW : wtR N t q = sN N t 1 (sS N t (st0 q)) := if_p ht
        rw [eW]
        exact ok_mono (IR_end hc hTT hok (sN_le (sS_le hq)) f5) (fun y hy => ⟨_, rfl, hy⟩)
  · have eR : foR N t k q = fo N t k q (FL k) := if_n hk7
    rw [eR]
    refine iter_up 0 (FL k) (fun n z => ∃ d5, z = (J n, d5) ∧ frI d d5 ∧ CI d5 N t (fo N t k q n) ∧ (fo N t k q n).1 = true) ⟨d, rfl, frI.refl, c0, rfl⟩ (Nat.zero_le _) (by omega) ?_ ?_
    · intro n z hn hz
      obtain ⟨d5, rfl, f5, hc, hok⟩ := hz
      have e3 : d5 287 3 = J k := by rw [f5.2 3 (by decide) (by decide) (by decide)]; exact h3
      have hfm := form_all k (by omega) n hn
      have hcnt := fo_cnt (N := N) (t := t) (k := k) (q := q) n
      have h63 : FM k n ≠ 63 := by omega
      unfold st_I_readCommand_23
      simp only [J_lit]
      rw [e3, J_inb (by omega), gd_d (by omega), J_nat (by omega), fm_len hk, ob1_s, if_n (fun u => by have := (J_le (by omega) (by omega)).mp u; omega), gd_d (by omega), fm_at hk hn, ob1_s, if_n (J_ne h63 (by omega) (by decide)), ok_ob2]
      refine ok_mono (I_part (c := FM k n) hc hTT hok (fo_le hq n) (by omega)) (fun y hy => ?_)
      obtain ⟨y1, y2, y3⟩ := hy
      have ep : part N t (FM k n) (fo N t k q n) = fo N t k q (n + 1) := rfl
      rw [ep] at y1 y2
      by_cases u : (fo N t k q (n + 1)).1 = true
      · rw [y1, if_p u, if_n n10, ok_s, J_add]
        exact Or.inl ⟨_, rfl, y.2, rfl, f5.trans y3, y2, u⟩
      · rw [y1, if_n u, if_p rfl, ok_ir, ok_s]
        rw [Bool.not_eq_true] at u
        have := fo_f u (FL k - (n + 1))
        rw [show n + 1 + (FL k - (n + 1)) = FL k by omega] at this
        rw [this]
        exact Or.inr ⟨_, rfl, IR_fail y2.2.1 u (f5.trans y3)⟩
    · intro z hz
      obtain ⟨d5, rfl, f5, hc, hok⟩ := hz
      have e3 : d5 287 3 = J k := by rw [f5.2 3 (by decide) (by decide) (by decide)]; exact h3
      unfold st_I_readCommand_23
      simp only [J_lit]
      rw [e3, J_inb (by omega), gd_d (by omega), J_nat (by omega), fm_len hk, ob1_s, if_p ((J_le (by omega) (by omega)).mpr (Nat.le_refl _)), ok_ir]
      exact ok_mono (IR_end hc hTT hok (fo_le hq _) f5) (fun y hy => ⟨_, rfl, hy⟩)
/-- what a command leaves of the reader -/
def frK (d d' : Dt) : Prop := (∀ k, k ≠ 287 → k ≠ 289 → d' k = d k) ∧ ∀ j, j ≠ 2 → j ≠ 3 → j ≠ 5 → j ≠ 6 → d' 287 j = d 287 j
theorem frK.trans (h : frK d d1) (h2 : frK d1 d2) : frK d d2 := ⟨fun k h3 h4 => (h2.1 k h3 h4).trans (h.1 k h3 h4), fun j a1 a2 a3 a4 => (h2.2 j a1 a2 a3 a4).trans (h.2 j a1 a2 a3 a4)⟩
theorem frK.refl : frK d d := ⟨fun _ _ _ => rfl, fun _ _ _ _ _ => rfl⟩
theorem frK.tc (h : frK d d1) (hT : TC d N t) : TC d1 N t := ⟨by rw [h.2 1 (by decide) (by decide) (by decide) (by decide)]; exact hT.1, fun j hj => by rw [h.1 288 (by decide) (by decide)]; exact hT.2 j hj⟩
def IC (N : Nat) (t : Nat → Nat) (d : Dt) (p : Nat) (z : Int32 × Dt) : Prop := z.1 = J (if ((cmdR N t p).1 && atE N t (cmdR N t p).2.1) = true then 1 else 0) ∧ z.2 287 2 = J (cmdR N t p).2.1 ∧ (((cmdR N t p).1 && atE N t (cmdR N t p).2.1) = true → (∀ j, j < (cmdR N t p).2.2.1 → z.2 289 j = J ((cmdR N t p).2.2.2.1 j)) ∧ ((cmdR N t p).2.2.2.2 = 2 ∨ z.2 287 6 = J (cmdR N t p).2.2.2.2) ∧ z.2 287 3 = J (kd N t p) ∧ kd N t p < 8) ∧ frK d z.2 ∧ ((∃ k, k < 8 ∧ d 287 3 = J k) → ∃ k, k < 8 ∧ z.2 287 3 = J k)
theorem I_cmd (hT : TC d N t) (hTT : TT N t) (h2 : d 287 2 = J p) (hp : p ≤ N) : ok (f_I_readCommand d) (IC N t d p) := by
  unfold f_I_readCommand IC
  simp only [J_lit]
  rw [I_keyword hT hTT h2 hp, ok_ob2, ok_s]
  unfold cmdR
  by_cases u : kwO N t p = true
  · have hk : kd N t p < 8 := by
      have := u
      unfold kwO at this
      rw [Bool.and_eq_true, decide_eq_true_iff] at this
      exact this.1
    rw [if_p u, if_p u]
    dsimp only
    rw [if_n n10, ok_bnd, ok_bnd]
    have fK : frK d (wr (wr (wr (wr d 287 3 (J (kd N t p))) 287 2 (J (kwP N t p))) 289 0 (J 1)) 287 5 (J 0)) := ⟨fun k h1 h2 => by rw [wr_k h1, wr_k h2, wr_k h1, wr_k h1], fun j a1 a2 a3 a4 => by rw [wr_j a3, wr_k (by decide), wr_j a1, wr_j a2]⟩
    have e2 : wr (wr (wr (wr d 287 3 (J (kd N t p))) 287 2 (J (kwP N t p))) 289 0 (J 1)) 287 5 (J 0) 287 2 = J (kwP N t p) := by rw [wr_j (by decide), wr_k (by decide), wr_s]
    have e3 : wr (wr (wr (wr d 287 3 (J (kd N t p))) 287 2 (J (kwP N t p))) 289 0 (J 1)) 287 5 (J 0) 287 3 = J (kd N t p) := by rw [wr_j (by decide), wr_k (by decide), wr_j (by decide), wr_s]
    have e9 : wr (wr (wr (wr d 287 3 (J (kd N t p))) 287 2 (J (kwP N t p))) 289 0 (J 1)) 287 5 (J 0) 289 0 = J 1 := by rw [wr_k (by decide), wr_s]
    have e5 : wr (wr (wr (wr d 287 3 (J (kd N t p))) 287 2 (J (kwP N t p))) 289 0 (J 1)) 287 5 (J 0) 287 5 = J 0 := wr_s
    generalize wr (wr (wr (wr d 287 3 (J (kd N t p))) 287 2 (J (kwP N t p))) 289 0 (J 1)) 287 5 (J 0) = d5 at fK e2 e3 e9 e5 ⊢
    refine ok_mono (I_form (fK.tc hT) hTT e2 (kwP_le hp) e3 hk e5 e9) (fun z hz => ?_)
    obtain ⟨z1, z2, z3, z4⟩ := hz
    have z287 : z.2 287 3 = J (kd N t p) := by rw [z4.2 3 (by decide) (by decide) (by decide)]; exact e3
    exact ⟨z1, z2, fun v => ⟨(z3 v).1, (z3 v).2, z287, hk⟩, fK.trans ⟨z4.1, fun j a1 _ a3 a4 => z4.2 j a1 a3 a4⟩, fun _ => ⟨_, hk, z287⟩⟩
  · rw [if_n u, if_n u]
    dsimp only
    rw [if_p rfl, ok_s]
    refine ⟨rfl, (show wr d 287 2 (J (kwP N t p)) 287 2 = J (kwP N t p) from wr_s), fun v => ?_, ⟨fun k h1 _ => wr_k (d := d) (j := 2) (v := J (kwP N t p)) h1, fun j a1 _ _ _ => wr_j (d := d) (k := 287) (v := J (kwP N t p)) a1⟩, fun ⟨k, h1, h2⟩ => ⟨k, h1, ?_⟩⟩
    · rw [Bool.false_and] at v
      cases v
    show wr d 287 2 (J (kwP N t p)) 287 3 = J k
    rw [wr_j (by decide)]
    exact h2
end READ
