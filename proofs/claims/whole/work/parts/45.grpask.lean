/-! 45: the law's cases: groups, contradictions, relations, verdicts -/
section GASK
variable {D D' : Nat} {d d1 d2 : Dt} {g g' l s c : Nat → Nat} {us us' : List (Nat → Nat)} {sv : Option (Nat → Nat)} {e f : Int32} {ln : Nat} {cs : Nat → Nat} {om : Nat} {os : Nat → Nat} {L i : Nat} {xs : Nat → Int32} {b : Bool} {a a' n m r x y : Nat} {S : Nat → Prop}
theorem pr_sfail {M : Dt → Option (Int32 × Dt)} (h : St D d g us sv e f ln cs om os) (hs : scr d d1) (c : Nat) (hc : c < 10) (h1 : 1 ≤ c) (hM : MP d1 us g false → ok (M d1) (fun z => MO d1 z.2 us g c)) : Pr M D (J c, d1) :=
  ⟨c, hc, rfl, ok_mono (hM (h.mp hs.fX)) (fun u hu => ⟨hu.2.2.1, fun q => absurd q (by omega), h.scr hs hu⟩)⟩
theorem pr_sans {M : Dt → Option (Int32 × Dt)} {v : Int32} (h : St D d g us sv e f ln cs om os) (hs : scr d d1) (hM : MP (wr d1 300 0 v) us g false → ok (M (wr d1 300 0 v)) (fun z => z.1 = v ∧ MO (wr d1 300 0 v) z.2 us g 0)) : Pr M D (J 0, wr d1 300 0 v) :=
  pr_chg h (Nat.le_refl D) h.wf ⟨h.ul, h.uw⟩ (hs.hs h.hs h.uw) (hs.sim h.sim h.wf.wg) hs.fX hM
theorem prb_sfail {M : Dt → Option (Int32 × Dt)} (h : St D d g us sv e f ln cs om os) (hs : scr d d1) (c : Nat) (hc : c < 10) (h1 : 1 ≤ c) (hM : MP d1 us g false → ok (M d1) (fun z => MO d1 z.2 us g c)) : PrB M D (J c, d1) :=
  ⟨c, hc, rfl, ok_mono (hM (h.mp hs.fX)) (fun u hu => ⟨hu.2.2.1, fun q => absurd q (by omega), h.scr hs hu⟩)⟩
theorem prb_sans {M : Dt → Option (Int32 × Dt)} {v : Nat} (hv : v = 0 ∨ v = 1) (h : St D d g us sv e f ln cs om os) (hs : scr d d1) (hM : MP (wr d1 300 0 (J v)) us g false → ok (M (wr d1 300 0 (J v))) (fun z => z.1 = J v ∧ MO (wr d1 300 0 (J v)) z.2 us g 0)) : PrB M D (J 0, wr d1 300 0 (J v)) := by
  refine ⟨0, by decide, rfl, ok_mono (hM (h.mp hs.fX.w300)) (fun u hm => ⟨hm.2.2.2.1, fun _ => ⟨?_, ?_⟩, (h.change (Nat.le_refl D) h.wf ⟨h.ul, h.uw⟩ ((hs.hs h.hs h.uw).w300 h.uw) ((hs.sim h.sim h.wf.wg).w300 h.wf.nl (by decide)) hs.fX.w300 hm.2).inv⟩)⟩
  · rcases hv with hv | hv
    · exact Or.inl (by rw [hm.1, hv])
    · exact Or.inr (by rw [hm.1, hv])
  · rw [hm.2.2.2.2.1 300 (by decide) (by decide) (by decide), wr_s, hm.1]
def mayB (g l s c : Nat → Nat) (r : Nat) (w : Bool) : Bool := decide (c r = 0) && ((!cm g l s 1 r (g 0) || w) && (!cm g l s 2 r (g 0) || !w))
theorem mayB_iff {w : Bool} : mayB g l s c r w = true ↔ may g l s c r w := by
  unfold mayB may
  rw [Bool.and_eq_true, decide_eq_true_iff, Bool.and_eq_true]
  generalize cm g l s 1 r (g 0) = b1
  generalize cm g l s 2 r (g 0) = b2
  cases b1 <;> cases b2 <;> cases w <;> simp
theorem rv_eq {v : Bool} (hw : WG g) (hS : ∀ q, S q ↔ q < g 4) (hG : GI g l s c S) (hx : x < g 0) : anyN (fun a => gud g x a && (a.testBit x == v)) (2 ^ g 0) = mayB g l s c (l x) (v ^^ (s x == 1)) := by
  rw [Bool.eq_iff_iff, rv_iff hw hS hG hx, mayB_iff]
def brk (g l s c : Nat → Nat) (r : Nat) : Nat := if c r = 0 then (if clm g l s r (g 0) = 3 then 1 else 0) else 1
theorem G_isBroken (h : GF d g l s c S) (hx : x < g 0) : f_G_isBroken (J x) d = some (J (brk g l s c (l x))) := by
  obtain ⟨⟨h1, h2, h3⟩, h4, h5⟩ := h
  obtain ⟨a1, a2, a3, a4, a5, a6⟩ := h3 x hx
  obtain ⟨b1, b2, b3, b4, b5, b6⟩ := h3 (l x) a1
  have hc := clm_le (g := g) (l := l) (s := s) (r := l x) (n := g 0)
  unfold f_G_isBroken brk
  simp only [J_lit]
  rw [J_inb (by omega), gd_d (by omega), J_nat (by omega), a4, J_inb (by omega), gd_d (by omega), J_nat (by omega), b6, gd_d (by omega), gd_d (by omega), h5 _ a1]
  by_cases q : c (l x) = 0
  · rw [if_p (by rw [q]), if_p q]
    by_cases q2 : clm g l s (l x) (g 0) = 3
    · rw [if_p (by rw [q2]), if_p q2]
    · rw [if_n (J_ne q2 (by omega) (by decide)), if_n q2]
  · rw [if_n (J_ne q (by omega) (by decide)), if_n q]
theorem brk_le : brk g l s c r ≤ 1 := by
  unfold brk
  by_cases q : c r = 0
  · rw [if_p q]
    by_cases q2 : clm g l s r (g 0) = 3
    · rw [if_p q2]; decide
    · rw [if_n q2]; decide
  · rw [if_n q]; decide
theorem brk_iff : brk g l s c r = 1 ↔ mayB g l s c r true = false ∧ mayB g l s c r false = false := by
  unfold brk mayB clm
  generalize cm g l s 1 r (g 0) = b1
  generalize cm g l s 2 r (g 0) = b2
  by_cases q : c r = 0
  · rw [if_p q, decide_eq_true q]
    cases b1 <;> cases b2 <;> decide
  · rw [if_n q, decide_eq_false q]
    cases b1 <;> cases b2 <;> decide
theorem brk_iff2 (hx : s x ≤ 1) : brk g l s c r = 1 ↔ mayB g l s c r (true ^^ (s x == 1)) = false ∧ mayB g l s c r (false ^^ (s x == 1)) = false := by
  rw [brk_iff]
  rcases (by omega : s x = 0 ∨ s x = 1) with q | q <;> rw [q]
  · exact Iff.rfl
  · exact And.comm
theorem G_verdictOn (h : GF d g l s c S) (hx : x < g 0) : f_G_verdictOn (J x) d = some (J (vdc (mayB g l s c (l x) (true ^^ (s x == 1))) (mayB g l s c (l x) (false ^^ (s x == 1))))) := by
  have hB := G_isBroken h hx
  obtain ⟨h0, h4, h5⟩ := h
  obtain ⟨h1, h2, h3⟩ := h0
  obtain ⟨a1, a2, a3, a4, a5, a6⟩ := h3 x hx
  obtain ⟨b1, b2, b3, b4, b5, b6⟩ := h3 (l x) a1
  have hc := clm_le (g := g) (l := l) (s := s) (r := l x) (n := g 0)
  unfold f_G_verdictOn
  rw [hB, ob1_s]
  simp only [J_lit]
  rw [J_inb (by omega), gd_d (by omega), J_nat (by omega), a4, J_inb (by omega), gd_d (by omega), J_nat (by omega), h5 _ a1, G_seen ⟨h1, h2, h3⟩ hx hc, ob1_s]
  unfold brk clm mayB
  generalize cm g l s 1 (l x) (g 0) = b1
  generalize cm g l s 2 (l x) (g 0) = b2
  rcases (by omega : c (l x) = 0 ∨ c (l x) = 1) with q | q <;> rw [q] <;> rcases (by omega : s x = 0 ∨ s x = 1) with q2 | q2 <;> rw [q2] <;> cases b1 <;> cases b2 <;> rfl
theorem G_count (h : GF d g l s c S) : f_G_countGroups d = some (J (cntN (fun i => l i == i) (g 0))) := by
  obtain ⟨⟨h1, h2, h3⟩, h4, h5⟩ := h
  apply ok_eq
  unfold f_G_countGroups f_G_countGroups_4
  simp only [J_lit]
  refine iter_up 0 (g 0) (fun n x => x = (J (cntN (fun i => l i == i) n), J n)) rfl (Nat.zero_le _) (by omega) ?_ ?_
  · intro n x hn hx
    subst hx
    obtain ⟨a1, a2, a3, a4, a5, a6⟩ := h3 n hn
    have e : cntN (fun i => l i == i) (n + 1) = cntN (fun i => l i == i) n + (if l n == n then 1 else 0) := rfl
    unfold st_G_countGroups_4
    simp only [J_lit]
    rw [h1, if_n (fun q => by have := (J_le (by omega) (by omega)).mp q; omega), J_inb (by omega), gd_d (by omega), J_nat (by omega), a4, J_add, J_add, e]
    by_cases q : l n = n
    · rw [if_p (by rw [q]), ok_s, if_p (beq_iff_eq.mpr q)]
      exact Or.inl ⟨_, rfl, rfl⟩
    · rw [if_n (J_ne q (by omega) (by omega)), ok_s, if_n (fun t => q (beq_iff_eq.mp t))]
      exact Or.inl ⟨_, rfl, rfl⟩
  · intro x hx
    subst hx
    unfold st_G_countGroups_4
    simp only [J_lit]
    rw [h1, if_p ((J_le (by omega) (by omega)).mpr (Nat.le_refl _)), ok_ir, ok_s]
    exact ⟨_, rfl, rfl⟩
theorem cntN_rem {q : Nat → Bool} {k : Nat} (hq : q k = true) : ∀ m, cntN q m = cntN (fun i => q i && !(i == k)) m + (if k < m then 1 else 0) := by
  intro m
  induction m with
  | zero => rfl
  | succ m ih =>
    show cntN q m + (if q m then 1 else 0) = cntN (fun i => q i && !(i == k)) m + (if (q m && !(m == k)) then 1 else 0) + (if k < m + 1 then 1 else 0)
    rw [ih]
    by_cases e : m = k
    · rw [e, hq, beq_self_eq_true, if_n (Nat.lt_irrefl k), if_p (Nat.lt_succ_self k)]
      rfl
    · rw [beq_eq_false_iff_ne.mpr e, Bool.not_false, Bool.and_true]
      by_cases e2 : k < m
      · rw [if_p e2, if_p (show k < m + 1 by omega)]
        omega
      · rw [if_n e2, if_n (show ¬ k < m + 1 by omega), Nat.add_zero, Nat.add_zero]
theorem cntN_rel {p : Nat → Bool} {R : Nat → Nat → Prop} (hR : ∀ i i' j, R i j → R i' j → i = i') : ∀ n (q : Nat → Bool), (∀ i, i < n → p i = true → ∃ j, j < m ∧ q j = true ∧ R i j) → cntN p n ≤ cntN q m := by
  intro n
  induction n with
  | zero => intro q _; exact Nat.zero_le _
  | succ n ih =>
    intro q h
    show cntN p n + (if p n then 1 else 0) ≤ cntN q m
    cases e : p n with
    | false => exact ih q (fun i hi => h i (by omega))
    | true =>
      obtain ⟨j, h1, h2, h3⟩ := h n (by omega) e
      rw [cntN_rem h2 m, if_p h1]
      have := ih (fun k => q k && !(k == j)) (fun i hi hp => by
        obtain ⟨j', k1, k2, k3⟩ := h i (by omega) hp
        refine ⟨j', k1, ?_, k3⟩
        have hne : j' ≠ j := fun t => by
          have := hR i n j' k3 (t ▸ h3)
          omega
        rw [k2, beq_eq_false_iff_ne.mpr hne]
        rfl)
      show cntN p n + 1 ≤ _
      omega
theorem least_ex : ∀ n, (∃ i, i < n ∧ l i = r) → ∃ j, j < n ∧ l j = r ∧ ∀ i, i < j → l i ≠ r := by
  intro n
  induction n with
  | zero => intro ⟨i, hi, _⟩; omega
  | succ n ih =>
    intro ⟨i, hi, he⟩
    by_cases h : ∃ i, i < n ∧ l i = r
    · obtain ⟨j, h1, h2⟩ := ih h
      exact ⟨j, by omega, h2⟩
    · have hin : i = n := by
        rcases (by omega : i < n ∨ i = n) with t | t
        · exact absurd ⟨i, t, he⟩ h
        · exact t
      subst hin
      exact ⟨i, hi, he, fun k hk t => h ⟨k, hk, t⟩⟩
/-- nobody of the group comes before -/
def fst (g : Nat → Nat) (x : Nat) : Bool := decide (grp g x &&& (2 ^ x - 1) = 0)
theorem fst_iff (hw : WG g) (hS : ∀ q, S q ↔ q < g 4) (hG : GI g l s c S) (hx : x < g 0) : fst g x = true ↔ ∀ i, i < x → l i ≠ l x := by
  unfold fst
  rw [decide_eq_true_iff]
  refine ⟨fun h i hi e => ?_, fun h => Nat.eq_of_testBit_eq (fun i => ?_)⟩
  · have h1 := (sG_iff hw hS hG hx (show i < g 0 by omega)).mpr e
    have h2 : (grp g x &&& (2 ^ x - 1)).testBit i = false := by rw [h, Nat.zero_testBit]
    rw [Nat.testBit_and, Nat.testBit_two_pow_sub_one, show (grp g x).testBit i = true from h1, decide_eq_true hi] at h2
    cases h2
  · rw [Nat.testBit_and, Nat.testBit_two_pow_sub_one, Nat.zero_testBit]
    by_cases hi : i < x
    · cases h1 : (grp g x).testBit i with
      | false => rfl
      | true => exact absurd ((sG_iff hw hS hG hx (show i < g 0 by omega)).mp h1) (h i hi)
    · rw [decide_eq_false hi, Bool.and_false]
theorem count_eq (hw : WG g) (hS : ∀ q, S q ↔ q < g 4) (hG : GI g l s c S) : cntN (fst g) (g 0) = cntN (fun i => l i == i) (g 0) := by
  have A := hG.1
  apply Nat.le_antisymm
  · refine cntN_rel (R := fun i j => l i = j ∧ ∀ k, k < i → l k ≠ j) (fun i i' j ⟨h1, h2⟩ ⟨h3, h4⟩ => ?_) (g 0) _ (fun i hi hp => ⟨l i, (A i hi).1, beq_iff_eq.mpr (A i hi).2.1, rfl, (fst_iff hw hS hG hi).mp hp⟩)
    rcases Nat.lt_trichotomy i i' with t | t | t
    · exact absurd h1 (h4 i t)
    · exact t
    · exact absurd h3 (h2 i' t)
  · refine cntN_rel (R := fun i j => l j = i) (fun i i' j h1 h2 => h1.symm.trans h2) (g 0) _ (fun i hi hp => ?_)
    obtain ⟨j, h1, h2, h3⟩ := least_ex (g 0) ⟨i, hi, beq_iff_eq.mp hp⟩
    exact ⟨j, h1, (fst_iff hw hS hG h1).mpr (fun k hk => by rw [h2]; exact h3 k hk), h2⟩
theorem M_count (hr : rowN d 293 0 g) (hw : WG g) : f_M_groupCount_9 (J 0) (J 0) d = some (J (cntN (fst g) (g 0)), d) := by
  have h8 := hw.nl
  have e0 : d 293 0 = J (g 0) := hr.at (by decide)
  apply ok_eq
  unfold f_M_groupCount_9
  refine iter_up 0 (g 0) (fun n x => x = (J (cntN (fst g) n), J n)) rfl (Nat.zero_le _) (by omega) ?_ ?_
  · intro n x hn hx
    subst hx
    have hp := Nat.two_pow_pos n
    have hp8 : 2 ^ n < 2 ^ 8 := Nat.pow_lt_pow_right (by decide) (by omega)
    have e : cntN (fst g) (n + 1) = cntN (fst g) n + (if fst g n then 1 else 0) := rfl
    have hle : grp g n &&& (2 ^ n - 1) ≤ 2 ^ n - 1 := Nat.and_le_right
    unfold st_M_groupCount_9
    simp only [J_lit]
    rw [e0, if_n (fun q => by have := (J_le (by omega) (by omega)).mp q; omega), M_group hr hw hn, ob1_s, J_shl (by omega), J_sub (by omega), J_and, J_add, J_add, J_add, e]
    by_cases q : grp g n &&& (2 ^ n - 1) = 0
    · rw [if_p (by rw [q]), ok_s, if_p (show fst g n = true from decide_eq_true q)]
      exact Or.inl ⟨_, rfl, rfl⟩
    · rw [if_n (J_ne q (by omega) (by decide)), ok_s, if_n (show ¬ fst g n = true from fun t => q (of_decide_eq_true t))]
      exact Or.inl ⟨_, rfl, rfl⟩
  · intro x hx
    subst hx
    unfold st_M_groupCount_9
    simp only [J_lit]
    rw [e0, if_p ((J_le (by omega) (by omega)).mpr (Nat.le_refl _)), ok_ir, ok_s]
    exact ⟨_, rfl, rfl⟩
theorem law_groupCount (h : St D d g us sv e f ln cs om os) : ok (f_W_law_1873 L xs (J i) d) (fun y => ∃ d', y = .inl (J i + 5, d') ∧ Inv D d') := by
  refine tail_s (c := 0) (v := J (cntN (fst g) (g 0))) h ?_ (fun d1 hs hp => ?_)
  · unfold f_C_groupCount
    simp only [J_lit]
    rw [ok_ob1]
    refine ok_mono (G_find h.sim h.wf.wg) (fun d3 h3 => ?_)
    obtain ⟨⟨l, s, c, hF⟩, hfr⟩ := h3
    rw [G_count hF, ob1_s, ok_s, count_eq h.wf.wg (seen_all h.wf.ns) hF.2.1]
    exact ⟨rfl, GF_scr hfr⟩
  · have hm := MO_code hp.1 hp.2.1 0
    unfold f_M_groupCount
    simp only [J_lit]
    rw [ok_bnd, M_count hm.2.1 h.wf.wg, ok_s]
    exact ⟨rfl, hm⟩
theorem P_verdict {x : Int32} (h : St D d g us sv e f ln cs om os) : ok (f_W_verdict x d) (Pr (fun d => f_M_verdict x d) D) := by
  have hw := h.wf.wg
  have h8 := hw.nl
  unfold f_W_verdict f_C_verdict
  simp only [J_lit]
  by_cases q : isIn (g 0) x
  · rw [(C_checkL h.sim h8).1 q, ok_ocW, ok_ocU, ok_s, Sum.elim_inl, ok_ob1]
    obtain ⟨k, hk, rfl⟩ := q
    refine ok_mono (G_find h.sim hw) (fun d3 h3 => ?_)
    obtain ⟨⟨l, s, c, hF⟩, hfr⟩ := h3
    rw [G_verdictOn hF hk, ob1_s, gd_t1 vdc_ch, ok_s, Sum.elim_inl, ok_bnd, ok_s]
    dsimp only
    refine pr_sans h (GF_scr hfr) (fun hp => ?_)
    have hm := MO_code hp.1 hp.2.1 0
    have e1 : anyN (r1 g k) (2 ^ g 0) = mayB g l s c (l k) (true ^^ (s k == 1)) := rv_eq hw (seen_all hw.ns) hF.2.1 hk
    have e0 : anyN (r0 g k) (2 ^ g 0) = mayB g l s c (l k) (false ^^ (s k == 1)) := rv_eq hw (seen_all hw.ns) hF.2.1 hk
    unfold f_M_verdict f_M_verdictOf
    simp only [J_lit]
    rw [(M_isNone hp.1 h8).1 ⟨k, hk, rfl⟩, ob2_s, if_p rfl, M_judge hm.2.1 hw hk, ob1_s, vd_char, ob1_s, gd_t1 vdc_ch, ob2_s, gd_t1 vdc_ch, ok_s, e1, e0]
    exact ⟨rfl, hm⟩
  · rw [(C_checkL h.sim h8).2 q, ok_ocW, ok_ocU, ok_s, Sum.elim_inr, ok_s, Sum.elim_inr]
    show ok (if (1 : Nat) = 1 then some (J 1, d) else none) _
    rw [if_p rfl, ok_s]
    refine pr_fail h (Nat.le_refl D) 1 (by decide) (by decide) (fun hp => ?_)
    unfold f_M_verdict f_M_verdictOf
    simp only [J_lit]
    rw [(M_isNone hp.1 h8).2 q, ob2_s, if_n n10, ob2_s, gd_t1 (nar_ch (by decide)), ok_s]
    exact MO_code hp.1 hp.2.1 1
theorem law_verdict (h : St D d g us sv e f ln cs om os) (hi : i + 5 ≤ L) (hL : L ≤ 2560) : ok (f_W_law_2017 L xs (J i) d) (fun y => ∃ d', y = .inl (J i + 5, d') ∧ Inv D d') := by
  unfold f_W_law_2017
  simp only [gdx1 hi hL]
  exact tail_i (P := Inv D) (P_verdict h)
theorem vdi3 {c1 c0 : Bool} : vdi c1 c0 = 3 ↔ c1 = false ∧ c0 = false := by
  cases c1 <;> cases c0 <;> decide
theorem vdi_le {c1 c0 : Bool} : vdi c1 c0 ≤ 3 := by
  cases c1 <;> cases c0 <;> decide
theorem P_isContradictory {x : Int32} (h : St D d g us sv e f ln cs om os) : ok (f_W_isContradictory x d) (PrB (fun d => f_M_isContradictory x d) D) := by
  have hw := h.wf.wg
  have h8 := hw.nl
  unfold f_W_isContradictory f_C_isContradictory
  simp only [J_lit]
  by_cases q : isIn (g 0) x
  · rw [(C_checkL h.sim h8).1 q, ok_ocW, ok_ocU, ok_s, Sum.elim_inl, ok_ob1]
    obtain ⟨k, hk, rfl⟩ := q
    refine ok_mono (G_find h.sim hw) (fun d3 h3 => ?_)
    obtain ⟨⟨l, s, c, hF⟩, hfr⟩ := h3
    have hb := brk_le (g := g) (l := l) (s := s) (c := c) (r := l k)
    have e1 : anyN (r1 g k) (2 ^ g 0) = mayB g l s c (l k) (true ^^ (s k == 1)) := rv_eq hw (seen_all hw.ns) hF.2.1 hk
    have e0 : anyN (r0 g k) (2 ^ g 0) = mayB g l s c (l k) (false ^^ (s k == 1)) := rv_eq hw (seen_all hw.ns) hF.2.1 hk
    have hB : brk g l s c (l k) = 1 ↔ vdi (anyN (r1 g k) (2 ^ g 0)) (anyN (r0 g k) (2 ^ g 0)) = 3 := by
      rw [vdi3, e1, e0]
      exact brk_iff2 (hF.2.1.1 k hk).2.2.2.1
    have hv := vdi_le (c1 := anyN (r1 g k) (2 ^ g 0)) (c0 := anyN (r0 g k) (2 ^ g 0))
    have fin : ∀ v, v = brk g l s c (l k) → PrB (fun d => f_M_isContradictory (J k) d) D (J 0, wr d3 300 0 (J v)) := fun v hv2 => by
      refine prb_sans (by omega) h (GF_scr hfr) (fun hp => ?_)
      have hm := MO_code hp.1 hp.2.1 0
      unfold f_M_isContradictory
      simp only [J_lit]
      rw [(M_isNone hp.1 h8).1 ⟨k, hk, rfl⟩, ob2_s, if_p rfl, M_judge hm.2.1 hw hk, ob1_s]
      by_cases t : v = 1
      · rw [if_p (by rw [hB.mp (by omega)]), ok_s]
        exact ⟨by rw [t], hm⟩
      · rw [if_n (J_ne (fun u => t (by rw [hv2]; exact hB.mpr u)) (by omega) (by decide)), ok_s]
        exact ⟨by rw [show v = 0 by omega], hm⟩
    rw [G_isBroken hF hk, ob1_s, gd_t1 (nar01 hb), ok_s, Sum.elim_inl]
    dsimp only
    by_cases t : brk g l s c (l k) = 0
    · rw [if_p (by rw [t]), ok_bnd, ok_s]
      exact fin 0 t.symm
    · rw [if_n (J_ne t (by omega) (by decide)), ok_bnd, ok_s]
      exact fin 1 (by omega)
  · rw [(C_checkL h.sim h8).2 q, ok_ocW, ok_ocU, ok_s, Sum.elim_inr, ok_s, Sum.elim_inr]
    show ok (if (1 : Nat) = 1 then some (J 1, d) else none) _
    rw [if_p rfl, ok_s]
    refine prb_fail h (Nat.le_refl D) 1 (by decide) (by decide) (fun hp => ?_)
    unfold f_M_isContradictory
    simp only [J_lit]
    rw [(M_isNone hp.1 h8).2 q, ob2_s, if_n n10, ok_s]
    exact MO_code hp.1 hp.2.1 1
theorem law_isContradictory (h : St D d g us sv e f ln cs om os) (hi : i + 5 ≤ L) (hL : L ≤ 2560) : ok (f_W_law_1886 L xs (J i) d) (fun y => ∃ d', y = .inl (J i + 5, d') ∧ Inv D d') := by
  unfold f_W_law_1886 f_W_law_1940
  simp only [gdx1 hi hL]
  exact tail_b (P_isContradictory h)
/-- the statements of a group alone -/
theorem grpT_iff (hw : WG g) (hS : ∀ q, S q ↔ q < g 4) (hG : GI g l s c S) (hx : x < g 0) : cntF g (sG g x) a (g 4) = 0 ↔ c (l x) = 0 ∧ ∀ i, i < g 0 → l i = l x → a.testBit i = (a.testBit (l x) ^^ (s i == 1)) := by
  obtain ⟨A1, A2, A3, A4, A5⟩ := hG.1 x hx
  rw [cntF_z, ← hG.2.2.1 (l x) A1 A2 a]
  refine ⟨fun h q hq t => ?_, fun h k hk t => ?_⟩
  · exact h q ((hS q).mp hq) ((sG_iff hw hS hG hx (hw.2.2.2.2 q ((hS q).mp hq)).1).mpr t)
  · exact h k ((hS k).mpr hk) ((sG_iff hw hS hG hx (hw.2.2.2.2 k hk).1).mp t)
theorem inG_and {k : Nat} : inG g x (k &&& grp g x) = true := by
  apply decide_eq_true
  rw [J_zero]
  intro i hi
  rw [and_bit, J_lsb hi, J_not hi, J_lsb hi, Nat.testBit_and]
  cases k.testBit i <;> cases (grp g x).testBit i <;> rfl
theorem M_rel51 (hr : rowN d 293 0 g) (hw : WG g) (hS : ∀ q, S q ↔ q < g 4) (hG : GI g l s c S) (hx : x < g 0) (hy : y < g 0) (hxy : l x = l y) : f_M_relation_51 (J x) (J y) (J (grp g x)) (J 0) d = if c (l x) = 0 then some (J (if s x = s y then 43 else 45), d) else some (J 32, wr d 292 7 (J 2)) := by
  have h8 := hw.nl
  have hp := pow256 hw
  have hp0 := Nat.two_pow_pos (g 0)
  have e0 : d 293 0 = J (g 0) := hr.at (by decide)
  have hsx := (hG.1 x hx).2.2.2.1
  have hsy := (hG.1 y hy).2.2.2.1
  have key : ok (f_M_relation_51 (J x) (J y) (J (grp g x)) (J 0) d) (fun z => z = if c (l x) = 0 then (J (if s x = s y then 43 else 45), d) else (J 32, wr d 292 7 (J 2))) := by
    unfold f_M_relation_51
    refine iter_up 0 (2 ^ g 0) (fun n z => z = J n ∧ ∀ k, k < n → ¬ (inG g x k = true ∧ cntF g (sG g x) k (g 4) = 0)) ⟨rfl, fun k hk => absurd hk (Nat.not_lt_zero k)⟩ (by omega) (by omega) ?_ ?_
    · intro n z hn hz
      obtain ⟨rfl, hz⟩ := hz
      have go : ¬ (inG g x n = true ∧ cntF g (sG g x) n (g 4) = 0) → ∀ k, k < n + 1 → ¬ (inG g x k = true ∧ cntF g (sG g x) k (g 4) = 0) := fun t k hk => by
        rcases (by omega : k < n ∨ k = n) with u | rfl
        · exact hz k u
        · exact t
      unfold st_M_relation_51
      simp only [J_lit]
      rw [e0, J_shl (by omega), if_n (fun q => by have := (J_le (by omega) (by omega)).mp q; omega), M_areTrue hr hw grp_bits, ob1_s, J_bit (by omega), J_bit (by omega), J_add]
      by_cases k0 : (J n &&& (J (grp g x) ^^^ -J 1)) = J 0
      · rw [if_p k0]
        by_cases k2 : cntF g (sG g x) n (g 4) = 0
        · rw [if_p k2, if_n n10, ok_ir]
          obtain ⟨t1, t2⟩ := (grpT_iff hw hS hG hx).mp k2
          have u1 := t2 x hx rfl
          have u2 := t2 y hy hxy.symm
          rw [if_p t1, u1, u2]
          rcases (by omega : s x = 0 ∨ s x = 1) with v1 | v1 <;> rcases (by omega : s y = 0 ∨ s y = 1) with v2 | v2 <;> rw [v1, v2] <;> cases n.testBit (l x) <;> exact ⟨_, rfl, Or.inr ⟨_, rfl, rfl⟩⟩
        · rw [if_n k2, if_p rfl, ok_s]
          exact Or.inl ⟨_, rfl, rfl, go (fun t => k2 t.2)⟩
      · rw [if_n k0, ok_s]
        exact Or.inl ⟨_, rfl, rfl, go (fun t => k0 (of_decide_eq_true t.1))⟩
    · intro z hz
      obtain ⟨rfl, hz⟩ := hz
      have hc : ¬ c (l x) = 0 := fun t => by
        refine hz (asg g l s (fun _ => false) &&& grp g x) (Nat.lt_of_le_of_lt Nat.and_le_left asg_lt) ⟨inG_and, (grpT_iff hw hS hG hx).mpr ⟨t, fun i hi hl => ?_⟩⟩
        have hb : ∀ i, i < g 0 → l i = l x → (asg g l s (fun _ => false) &&& grp g x).testBit i = (s i == 1) := fun i hi hl => by
          rw [Nat.testBit_and, show (grp g x).testBit i = true from (sG_iff hw hS hG hx hi).mpr hl, Bool.and_true, asg_at hi, Bool.false_xor]
        have A := hG.1 x hx
        rw [hb i hi hl, hb (l x) A.1 A.2.1, A.2.2.1]
        cases (s i == 1) <;> rfl
      unfold st_M_relation_51
      simp only [J_lit]
      rw [e0, J_shl (by omega), if_p ((J_le (by omega) (by omega)).mpr (Nat.le_refl _)), ok_ir, ok_bnd, ok_s, if_n hc]
      exact ⟨_, rfl, rfl⟩
  rw [ok_eq key]
  by_cases q : c (l x) = 0
  · rw [if_p q, if_p q]
  · rw [if_n q, if_n q]
theorem P_relation {x y : Int32} (h : St D d g us sv e f ln cs om os) : ok (f_W_relation x y d) (Pr (fun d => f_M_relation x y d) D) := by
  have hw := h.wf.wg
  have h8 := hw.nl
  have bad : (¬ isIn (g 0) x ∨ ¬ isIn (g 0) y) → Pr (fun d => f_M_relation x y d) D (J 1, d) := fun q => by
    refine pr_fail h (Nat.le_refl D) 1 (by decide) (by decide) (fun hp => ?_)
    have h21 : f_M_relation_21 x y d = some (J 32, wr d 292 7 (J 1)) := by
      unfold f_M_relation_21 f_M_relation_22
      simp only [J_lit]
      rw [M_fails (by decide), ob2_s, if_n (show ¬ J (if (1 : Nat) = 0 then 0 else 1) = J 0 by decide)]
    unfold f_M_relation
    simp only [J_lit]
    by_cases q1 : isIn (g 0) x
    · have q2 : ¬ isIn (g 0) y := by
        rcases q with q | q
        · exact absurd q1 q
        · exact q
      rw [(M_isLantern hp.1 h8).1 q1, ob1_s, if_n n10, (M_isLantern hp.1 h8).2 q2, ob1_s, if_p rfl, h21, ok_s]
      exact MO_code hp.1 hp.2.1 1
    · rw [(M_isLantern hp.1 h8).2 q1, ob1_s, if_p rfl, h21, ok_s]
      exact MO_code hp.1 hp.2.1 1
  unfold f_W_relation f_C_relation
  simp only [J_lit]
  by_cases q1 : isIn (g 0) x
  · by_cases q2 : isIn (g 0) y
    · rw [(C_checkL h.sim h8).1 q1, (C_checkL h.sim h8).1 q2, ok_ocW, ok_ocU, ok_s, Sum.elim_inl, ok_ocU, ok_s, Sum.elim_inl, ok_ob1]
      obtain ⟨k, hk, rfl⟩ := q1
      obtain ⟨j, hj, rfl⟩ := q2
      refine ok_mono (G_find h.sim hw) (fun d3 h3 => ?_)
      obtain ⟨⟨l, s, c, hF⟩, hfr⟩ := h3
      have hS := seen_all hw.ns
      obtain ⟨⟨F1, F2, F3⟩, hG, F5⟩ := hF
      obtain ⟨a1, a2, a3, a4, a5, a6⟩ := F3 k hk
      obtain ⟨b1, b2, b3, b4, b5, b6⟩ := F3 j hj
      obtain ⟨_, _, c3, _, _, c6⟩ := F3 (l k) a1
      have hM : ∀ d1, MP d1 us g false → f_M_relation (J k) (J j) d1 = if l j = l k then (if c (l k) = 0 then some (J (if s k = s j then 43 else 45), wr d1 292 7 (J 0)) else some (J 32, wr (wr d1 292 7 (J 0)) 292 7 (J 2))) else some (J 63, wr d1 292 7 (J 0)) := fun d1 hp => by
        have hm := MO_code hp.1 hp.2.1 0
        unfold f_M_relation f_M_relation_22
        simp only [J_lit]
        rw [(M_isLantern hp.1 h8).1 ⟨k, hk, rfl⟩, ob1_s, if_n n10, (M_isLantern hp.1 h8).1 ⟨j, hj, rfl⟩, ob1_s, if_n n10, M_fails (by decide), ob2_s, if_p (show J (if (0 : Nat) = 0 then 0 else 1) = J 0 from rfl), M_group hm.2.1 hw hk, ob1_s, J_bit (by omega)]
        by_cases t : l j = l k
        · rw [show (grp g k).testBit j = true from (sG_iff hw hS hG hk hj).mpr t, if_n (show ¬ J (if true = true then 1 else 0) = J 0 by decide), if_p t]
          exact M_rel51 hm.2.1 hw hS hG hk hj t.symm
        · have e : (grp g k).testBit j = false := by
            cases u : (grp g k).testBit j with
            | false => rfl
            | true => exact absurd ((sG_iff hw hS hG hk hj).mp u) t
          rw [e, if_p (show J (if false = true then 1 else 0) = J 0 by decide), if_n t]
      have eJ : f_G_areJoined (J k) (J j) d3 = some (J (if l j = l k then 1 else 0)) := by
        unfold f_G_areJoined
        simp only [J_lit]
        rw [J_inb (by omega), gd_d (by omega), J_inb (by omega), gd_d (by omega), J_nat (by omega), J_nat (by omega), a4, b4]
        by_cases t : l j = l k
        · rw [if_p (by rw [t]), if_p t]
        · rw [if_n (J_ne (fun u => t u.symm) (by omega) (by omega)), if_n t]
      have eC : f_G_hasClash (J k) d3 = some (J (c (l k))) := by
        unfold f_G_hasClash
        rw [J_inb (by omega), gd_d (by omega), J_nat (by omega), a4, J_inb (by omega), gd_d (by omega), J_nat (by omega), c6, gd_t1 (nar01 c3)]
      have eO : f_G_areOnOneSide (J k) (J j) d3 = some (J (if s k = s j then 1 else 0)) := by
        unfold f_G_areOnOneSide
        simp only [J_lit]
        rw [J_inb (by omega), gd_d (by omega), J_inb (by omega), gd_d (by omega), J_nat (by omega), J_nat (by omega), a5, b5]
        by_cases t : s k = s j
        · rw [if_p (by rw [t]), if_p t]
        · rw [if_n (J_ne t (by omega) (by omega)), if_n t]
      have hM2 : ∀ d1, MP d1 us g false → MO d1 (wr (wr d1 292 7 (J 0)) 292 7 (J 2)) us g 2 := fun d1 hp => by
        have : wr (wr d1 292 7 (J 0)) 292 7 (J 2) = wr d1 292 7 (J 2) := by
          funext p q
          by_cases e1 : p = 292
          · subst e1
            rw [wr_i, wr_i, wr_i]
            by_cases e2 : q = 7
            · rw [if_p e2, if_p e2]
            · rw [if_n e2, if_n e2, if_n e2]
          · rw [wr_k e1, wr_k e1, wr_k e1]
        rw [this]
        exact MO_code hp.1 hp.2.1 2
      rw [eJ, ob1_s]
      by_cases t : l j = l k
      · simp only [if_p t] at hM ⊢
        rw [if_n n10, eC, ob1_s]
        by_cases u : c (l k) = 0
        · simp only [if_p u] at hM ⊢
          rw [if_p (by rw [u]), eO, ob1_s]
          by_cases w : s k = s j
          · simp only [if_p w] at hM ⊢
            rw [if_n n10, ok_s, Sum.elim_inl, ok_bnd, ok_s]
            refine pr_sans h (GF_scr hfr) (fun hp => ?_)
            dsimp only
            rw [hM _ hp, ok_s]
            exact ⟨rfl, MO_code hp.1 hp.2.1 0⟩
          · simp only [if_n w] at hM ⊢
            rw [if_p trivial, ok_s, Sum.elim_inl, ok_bnd, ok_s]
            refine pr_sans h (GF_scr hfr) (fun hp => ?_)
            dsimp only
            rw [hM _ hp, ok_s]
            exact ⟨rfl, MO_code hp.1 hp.2.1 0⟩
        · simp only [if_n u] at hM ⊢
          rw [if_n (J_ne u (by omega) (by decide)), ok_s, Sum.elim_inr]
          show ok (if (3 : Nat) = 1 then _ else if (3 : Nat) = 3 then some (J 2, d3) else none) _
          rw [if_n (by decide), if_p rfl, ok_s]
          refine pr_sfail h (GF_scr hfr) 2 (by decide) (by decide) (fun hp => ?_)
          rw [hM _ hp, ok_s]
          exact hM2 _ hp
      · simp only [if_n t] at hM ⊢
        rw [if_p trivial, ok_s, Sum.elim_inl, ok_bnd, ok_s]
        refine pr_sans h (GF_scr hfr) (fun hp => ?_)
        dsimp only
        rw [hM _ hp, ok_s]
        exact ⟨rfl, MO_code hp.1 hp.2.1 0⟩
    · rw [(C_checkL h.sim h8).1 q1, (C_checkL h.sim h8).2 q2, ok_ocW, ok_ocU, ok_s, Sum.elim_inl, ok_ocU, ok_s, Sum.elim_inr, ok_s, Sum.elim_inr]
      show ok (if (1 : Nat) = 1 then some (J 1, d) else _) _
      rw [if_p rfl, ok_s]
      exact bad (Or.inr q2)
  · rw [(C_checkL h.sim h8).2 q1, ok_ocW, ok_ocU, ok_s, Sum.elim_inr, ok_s, Sum.elim_inr]
    show ok (if (1 : Nat) = 1 then some (J 1, d) else _) _
    rw [if_p rfl, ok_s]
    exact bad (Or.inl q1)
theorem law_relation (h : St D d g us sv e f ln cs om os) (hi : i + 5 ≤ L) (hL : L ≤ 2560) : ok (f_W_law_1949 L xs (J i) d) (fun y => ∃ d', y = .inl (J i + 5, d') ∧ Inv D d') := by
  unfold f_W_law_1949
  simp only [gdx1 hi hL, gdx2 hi hL]
  exact tail_i (P := Inv D) (P_relation h)
end GASK
