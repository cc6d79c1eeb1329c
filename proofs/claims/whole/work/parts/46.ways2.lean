/-! 46: the law's cases: explanations by groups, the least number of false statements by sets -/
section WAYS2
variable {D D' : Nat} {d d1 d2 : Dt} {g g' l s c : Nat → Nat} {us us' : List (Nat → Nat)} {sv : Option (Nat → Nat)} {e f : Int32} {ln : Nat} {cs : Nat → Nat} {om : Nat} {os : Nat → Nat} {L i : Nat} {xs : Nat → Int32} {b : Bool} {a a' n r x y : Nat} {m : Int32}
theorem bc_all : ∀ p, p < 64 → ∀ q, q < 64 → f_JI_bitCount (J (64 * p + q)) (fun _ _ => 0) = some (J (pc (64 * p + q) 12)) := by decide +kernel
theorem J_bc (h : x < 4096) : f_JI_bitCount (J x) d = some (J (pc x 12)) := by
  have h2 := bc_all (x / 64) (by omega) (x % 64) (by omega)
  rw [show 64 * (x / 64) + x % 64 = x by omega] at h2
  exact h2
def trB (g : Nat → Nat) (m : Int32) (a : Nat) : Nat → Bool
  | 0 => true
  | n + 1 => trB g m a n && (!m.toBitVec.getLsbD n || tr g a n)
theorem trB_iff : ∀ n, trB g m a n = true ↔ ∀ q, seen m n q → tr g a q = true := by
  intro n
  induction n with
  | zero => exact ⟨fun _ q hq => absurd hq seen_0, fun _ => rfl⟩
  | succ n ih =>
    show (trB g m a n && (!m.toBitVec.getLsbD n || tr g a n)) = true ↔ _
    rw [Bool.and_eq_true, ih]
    refine ⟨fun ⟨h1, h2⟩ q ⟨h3, h4⟩ => ?_, fun h => ⟨fun q hq => h q ⟨by have := hq.1; omega, hq.2⟩, ?_⟩⟩
    · rcases (by omega : q < n ∨ q = n) with t | rfl
      · exact h1 q ⟨t, h4⟩
      · rw [h4] at h2
        exact h2
    · cases hb : m.toBitVec.getLsbD n with
      | false => rfl
      | true => rw [h n ⟨Nat.lt_succ_self n, hb⟩]; rfl
/-- assignment a explains the admissions and the statements that m keeps -/
def exB (g : Nat → Nat) (m : Int32) (a : Nat) : Bool := admB g sAll a (g 0) && trB g m a (g 4)
theorem exB_iff (hG : GI g l s c (seen m (g 4))) (hw : WG g) : exB g m a = true ↔ ∀ r, r < g 0 → l r = r → exR g l (seen m (g 4)) r a := by
  unfold exB
  rw [Bool.and_eq_true, admB_iff, trB_iff]
  refine ⟨fun ⟨h1, h2⟩ r hr hl => ⟨fun q hq _ => h2 q hq, fun i hi _ => ?_⟩, fun h => ⟨fun i hi => ?_, fun q hq => ?_⟩⟩
  · have := h1 i hi
    exact this
  · have A := hG.1 i hi
    exact (h (l i) A.1 A.2.1).2 i hi rfl
  · have A := hG.1 _ (hw.2.2.2.2 q hq.1).1
    exact (h _ A.1 A.2.1).1 q hq rfl
theorem cntN_add {p : Nat → Bool} {m : Nat} : ∀ k, cntN p (m + k) = cntN p m + cntN (fun i => p (m + i)) k := by
  intro k
  induction k with
  | zero => rfl
  | succ k ih =>
    show cntN p (m + k) + (if p (m + k) then 1 else 0) = cntN p m + (cntN (fun i => p (m + i)) k + (if p (m + k) then 1 else 0))
    rw [ih, Nat.add_assoc]
theorem cntN_congr {p q : Nat → Bool} : ∀ n, (∀ i, i < n → p i = q i) → cntN p n = cntN q n := by
  intro n
  induction n with
  | zero => intro _; rfl
  | succ n ih =>
    intro h
    show cntN p n + (if p n then 1 else 0) = cntN q n + (if q n then 1 else 0)
    rw [ih (fun i hi => h i (by omega)), h n (Nat.lt_succ_self n)]
/-- the bits of b below n are in F -/
def sbs (F : Nat → Bool) (b : Nat) : Nat → Bool
  | 0 => true
  | n + 1 => sbs F b n && (!b.testBit n || F n)
theorem sbs_iff {F : Nat → Bool} : ∀ n, sbs F x n = true ↔ ∀ i, i < n → x.testBit i = true → F i = true := by
  intro n
  induction n with
  | zero => exact ⟨fun _ i hi => absurd hi (Nat.not_lt_zero i), fun _ => rfl⟩
  | succ n ih =>
    show (sbs F x n && (!x.testBit n || F n)) = true ↔ _
    rw [Bool.and_eq_true, ih]
    refine ⟨fun ⟨h1, h2⟩ i hi hb => ?_, fun h => ⟨fun i hi => h i (by omega), ?_⟩⟩
    · rcases (by omega : i < n ∨ i = n) with t | rfl
      · exact h1 i t hb
      · rw [hb] at h2
        exact h2
    · cases hb : x.testBit n with
      | false => rfl
      | true => rw [h n (Nat.lt_succ_self n) hb]; rfl
theorem sbs_cnt {F : Nat → Bool} : ∀ n, cntN (fun b => sbs F b n) (2 ^ n) = 2 ^ cntN F n := by
  intro n
  induction n with
  | zero => rfl
  | succ n ih =>
    have e1 : ∀ i, i < 2 ^ n → sbs F i (n + 1) = sbs F i n := fun i hi => by
      show (sbs F i n && (!i.testBit n || F n)) = sbs F i n
      rw [Nat.testBit_lt_two_pow hi, Bool.not_false, Bool.true_or, Bool.and_true]
    have e2 : ∀ i, i < 2 ^ n → sbs F (2 ^ n + i) (n + 1) = (sbs F i n && F n) := fun i hi => by
      have e3 : sbs F (2 ^ n + i) n = sbs F i n := by
        rw [Bool.eq_iff_iff, sbs_iff, sbs_iff]
        refine ⟨fun h j hj hb => h j hj (by rw [Nat.testBit_two_pow_add_gt hj]; exact hb), fun h j hj hb => h j hj (by rw [Nat.testBit_two_pow_add_gt hj] at hb; exact hb)⟩
      show (sbs F (2 ^ n + i) n && (!(2 ^ n + i).testBit n || F n)) = _
      rw [e3, Nat.testBit_two_pow_add_eq, Nat.testBit_lt_two_pow hi]
      rfl
    have e4 : cntN F (n + 1) = cntN F n + (if F n then 1 else 0) := rfl
    rw [show 2 ^ (n + 1) = 2 ^ n + 2 ^ n by rw [Nat.pow_succ]; omega, cntN_add, cntN_congr (2 ^ n) e1, cntN_congr (2 ^ n) e2, ih, e4]
    cases hF : F n with
    | true =>
      rw [cntN_congr (q := fun b => sbs F b n) (2 ^ n) (fun i _ => Bool.and_true _), ih, if_p rfl, Nat.pow_succ]
      omega
    | false =>
      have e5 : cntN (fun i => sbs F i n && false) (2 ^ n) = 0 := by
        rw [cntN_zero]
        cases hh : anyN (fun i => sbs F i n && false) (2 ^ n) with
        | false => rfl
        | true =>
          obtain ⟨k, _, hk⟩ := (anyN_iff _).mp hh
          rw [Bool.and_false] at hk
          cases hk
      rw [e5, if_n (by decide)]
      rfl
def fre (g l s : Nat → Nat) (i : Nat) : Bool := l i == i && clm g l s i (g 0) == 0
theorem clm_0 : clm g l s r n = 0 ↔ cm g l s 1 r n = false ∧ cm g l s 2 r n = false := by
  unfold clm
  cases cm g l s 1 r n <;> cases cm g l s 2 r n <;> decide
theorem brk_0 : brk g l s c r = 0 ↔ c r = 0 ∧ (cm g l s 1 r (g 0) = true → cm g l s 2 r (g 0) = false) := by
  unfold brk clm
  by_cases q : c r = 0
  · rw [if_p q, q]
    cases cm g l s 1 r (g 0) <;> cases cm g l s 2 r (g 0) <;> decide
  · rw [if_n q]
    exact ⟨fun h => absurd h (by decide), fun h => absurd h.1 q⟩
theorem may_brk {w : Bool} (h : may g l s c r w) : brk g l s c r = 0 :=
  brk_0.mpr ⟨h.1, fun q => by
    cases q2 : cm g l s 2 r (g 0) with
    | false => rfl
    | true =>
      have h1 := h.2.1 q
      have h2 := h.2.2 q2
      rw [h1] at h2
      cases h2⟩
/-- how many explain: nobody broken -/
theorem ex_count (hw : WG g) (hG : GI g l s c (seen m (g 4))) (hb : ∀ r, r < g 0 → l r = r → brk g l s c r = 0) : cntN (exB g m) (2 ^ g 0) = 2 ^ cntN (fre g l s) (g 0) := by
  rw [← sbs_cnt (F := fre g l s)]
  have A := hG.1
  apply Nat.le_antisymm
  · refine cntN_rel (R := fun a b => a < 2 ^ g 0 ∧ exB g m a = true ∧ ∀ i, i < g 0 → fre g l s i = true → b.testBit i = a.testBit i) (fun a a' b ⟨h1, h2, h3⟩ ⟨h4, h5, h6⟩ => ?_) (2 ^ g 0) _ (fun a ha hp => ⟨mkB (fun i => fre g l s i && a.testBit i) (g 0), mkB_lt, ?_, ha, hp, fun i hi hF => by rw [mkB_at hi, hF, Bool.true_and]⟩)
    · apply Nat.eq_of_testBit_eq
      intro i
      by_cases hi : i < g 0
      · obtain ⟨A1, A2, A3, A4, A5⟩ := A i hi
        have u := (exR_iff hw hG A1 A2).mp ((exB_iff hG hw).mp h2 (l i) A1 A2)
        have v := (exR_iff hw hG A1 A2).mp ((exB_iff hG hw).mp h5 (l i) A1 A2)
        rw [u.2 i hi rfl, v.2 i hi rfl]
        have e : a.testBit (l i) = a'.testBit (l i) := by
          by_cases hF : fre g l s (l i) = true
          · rw [← h3 (l i) A1 hF, h6 (l i) A1 hF]
          · have hz : ¬ clm g l s (l i) (g 0) = 0 := fun t => hF (by
              unfold fre
              rw [A2, t, beq_self_eq_true, beq_self_eq_true]
              rfl)
            rw [clm_0] at hz
            cases q1 : cm g l s 1 (l i) (g 0) with
            | true => rw [u.1.2.1 q1, v.1.2.1 q1]
            | false =>
              cases q2 : cm g l s 2 (l i) (g 0) with
              | true => rw [u.1.2.2 q2, v.1.2.2 q2]
              | false => exact absurd ⟨q1, q2⟩ hz
        rw [e]
      · have hp : 2 ^ g 0 ≤ 2 ^ i := Nat.pow_le_pow_right (by decide) (by omega)
        rw [Nat.testBit_lt_two_pow (by omega), Nat.testBit_lt_two_pow (by omega)]
    · rw [sbs_iff]
      intro i hi hbit
      rw [mkB_at hi, Bool.and_eq_true] at hbit
      exact hbit.1
  · refine cntN_rel (R := fun b a => b < 2 ^ g 0 ∧ sbs (fre g l s) b (g 0) = true ∧ ∀ r, r < g 0 → fre g l s r = true → a.testBit r = b.testBit r) (fun b b' a ⟨h1, h2, h3⟩ ⟨h4, h5, h6⟩ => ?_) (2 ^ g 0) _ (fun b hb2 hp => ⟨asg g l s (fun r => if fre g l s r then b.testBit r else cm g l s 1 r (g 0)), asg_lt, ?_, hb2, hp, fun r hr hF => ?_⟩)
    · apply Nat.eq_of_testBit_eq
      intro i
      by_cases hi : i < g 0
      · by_cases hF : fre g l s i = true
        · rw [← h3 i hi hF, h6 i hi hF]
        · have e1 : b.testBit i = false := by
            cases t : b.testBit i with
            | false => rfl
            | true => exact absurd ((sbs_iff (g 0)).mp h2 i hi t) hF
          have e2 : b'.testBit i = false := by
            cases t : b'.testBit i with
            | false => rfl
            | true => exact absurd ((sbs_iff (g 0)).mp h5 i hi t) hF
          rw [e1, e2]
      · have hp : 2 ^ g 0 ≤ 2 ^ i := Nat.pow_le_pow_right (by decide) (by omega)
        rw [Nat.testBit_lt_two_pow (by omega), Nat.testBit_lt_two_pow (by omega)]
    · rw [exB_iff hG hw]
      intro r hr hl
      refine asg_ex hw hG hr hl ?_
      obtain ⟨k1, k2⟩ := brk_0.mp (hb r hr hl)
      refine ⟨k1, ?_⟩
      by_cases hF : fre g l s r = true
      · have hz : clm g l s r (g 0) = 0 := by
          unfold fre at hF
          rw [Bool.and_eq_true, beq_iff_eq, beq_iff_eq] at hF
          exact hF.2
        rw [clm_0] at hz
        rw [hz.1, hz.2]
        exact ⟨fun t => absurd t (by decide), fun t => absurd t (by decide)⟩
      · rw [if_n hF]
        refine ⟨fun t => t, fun t => ?_⟩
        cases q1 : cm g l s 1 r (g 0) with
        | false => rfl
        | true =>
          have := k2 q1
          rw [t] at this
          cases this
    · have hl : l r = r := by
        unfold fre at hF
        rw [Bool.and_eq_true, beq_iff_eq] at hF
        exact hF.1
      rw [asg_lead hG hr hl]
      rw [if_p hF]
theorem ex_none (hw : WG g) (hG : GI g l s c (seen m (g 4))) (hr : r < g 0) (hl : l r = r) (hb : brk g l s c r ≠ 0) : cntN (exB g m) n = 0 := by
  rw [cntN_zero]
  cases h : anyN (exB g m) n with
  | false => rfl
  | true =>
    obtain ⟨k, _, hk⟩ := (anyN_iff n).mp h
    exact absurd (may_brk ((exR_iff hw hG hr hl).mp ((exB_iff hG hw).mp hk r hr hl)).1) hb
theorem pow_step : ∀ k, k ≤ n → 2 ^ cntN (fre g l s) k ≤ 2 ^ k := fun k _ => Nat.pow_le_pow_right (by decide) (cntN_le k)
theorem G_ways (hw : WG g) (h : GF d g l s c (seen m (g 4))) : f_G_waysToExplain d = some (J (cntN (exB g m) (2 ^ g 0))) := by
  have h8 := hw.nl
  have hB := fun x (hx : x < g 0) => G_isBroken h hx
  have A := h.2.1.1
  have hG := h.2.1
  obtain ⟨⟨h1, h2, h3⟩, h4, h5⟩ := h
  apply ok_eq
  unfold f_G_waysToExplain f_G_waysToExplain_4
  simp only [J_lit]
  refine iter_up 0 (g 0) (fun n z => z = (J (2 ^ cntN (fre g l s) n), J n) ∧ ∀ i, i < n → brk g l s c (l i) = 0) ⟨rfl, fun i hi => absurd hi (Nat.not_lt_zero i)⟩ (Nat.zero_le _) (by omega) ?_ ?_
  · intro n z hn hz
    obtain ⟨rfl, hz⟩ := hz
    obtain ⟨a1, a2, a3, a4, a5, a6⟩ := h3 n hn
    have hcl := clm_le (g := g) (l := l) (s := s) (r := n) (n := g 0)
    have e : cntN (fre g l s) (n + 1) = cntN (fre g l s) n + (if fre g l s n then 1 else 0) := rfl
    have hb1 := brk_le (g := g) (l := l) (s := s) (c := c) (r := l n)
    unfold st_G_waysToExplain_4
    simp only [J_lit]
    rw [h1, if_n (fun q => by have := (J_le (by omega) (by omega)).mp q; omega), hB n hn, ob1_s, J_inb (by omega), gd_d (by omega), J_nat (by omega), a4, gd_d (by omega), h5 n hn, J_mul, J_add]
    by_cases q : brk g l s c (l n) = 0
    · have hz2 : ∀ i, i < n + 1 → brk g l s c (l i) = 0 := fun i hi => by
        rcases (by omega : i < n ∨ i = n) with t | rfl
        · exact hz i t
        · exact q
      rw [if_p (by rw [q])]
      by_cases q2 : l n = n
      · rw [if_p (by rw [q2])]
        by_cases q3 : clm g l s n (g 0) = 0
        · have hF : fre g l s n = true := by unfold fre; rw [q2, q3]; simp
          rw [if_p (by rw [q3]), ok_s]
          refine Or.inl ⟨_, rfl, ?_, hz2⟩
          rw [e, hF, if_p rfl, Nat.pow_succ]
        · have hF : fre g l s n = false := by unfold fre; rw [beq_eq_false_iff_ne.mpr q3, Bool.and_false]
          rw [if_n (J_ne q3 (by omega) (by decide)), ok_s]
          refine Or.inl ⟨_, rfl, ?_, hz2⟩
          rw [e, hF]
          rfl
      · have hF : fre g l s n = false := by unfold fre; rw [beq_eq_false_iff_ne.mpr q2, Bool.false_and]
        rw [if_n (J_ne q2 (by omega) (by omega)), ok_s]
        refine Or.inl ⟨_, rfl, ?_, hz2⟩
        rw [e, hF]
        rfl
    · rw [if_n (J_ne q (by omega) (by decide)), ok_ir, ok_s]
      refine Or.inr ⟨_, rfl, ?_⟩
      rw [ex_none hw hG (A n hn).1 (A n hn).2.1 q]
  · intro z hz
    obtain ⟨rfl, hz⟩ := hz
    unfold st_G_waysToExplain_4
    simp only [J_lit]
    rw [h1, if_p ((J_le (by omega) (by omega)).mpr (Nat.le_refl _)), ok_ir, ok_s]
    refine ⟨_, rfl, ?_⟩
    rw [ex_count hw hG (fun r hr hl => by rw [← hl]; exact hz r hr)]
theorem exB_all (hw : WG g) : exB g (-J 1) a = true ↔ admB g sAll a (g 0) = true ∧ cntF g sAll a (g 4) = 0 := by
  unfold exB
  rw [Bool.and_eq_true, trB_iff, cntF_z]
  refine ⟨fun ⟨h1, h2⟩ => ⟨h1, fun k hk _ => h2 k ((seen_all hw.ns k).mpr hk)⟩, fun ⟨h1, h2⟩ => ⟨h1, fun q hq => h2 q hq.1 rfl⟩⟩
theorem wys_cnt (hw : WG g) : ∀ n, wys g n = cntN (exB g (-J 1)) n := by
  intro n
  induction n with
  | zero => rfl
  | succ n ih =>
    show wys g n + (if admB g sAll n (g 0) = true ∧ cntF g sAll n (g 4) = 0 then 1 else 0) = cntN (exB g (-J 1)) n + (if exB g (-J 1) n then 1 else 0)
    rw [ih]
    by_cases h : exB g (-J 1) n = true
    · rw [if_p ((exB_all hw).mp h), if_p h]
    · rw [if_n (fun t => h ((exB_all hw).mpr t)), if_n h]
theorem C_explan (hS : Sim d 2 g) (hw : WG g) : ok (f_C_explanations d) (fun z => z.1 = J (wys g (2 ^ g 0)) ∧ scr d z.2) := by
  unfold f_C_explanations
  simp only [J_lit]
  rw [ok_ob1]
  refine ok_mono (G_find hS hw) (fun d3 h3 => ?_)
  obtain ⟨⟨l, s, c, hF⟩, hfr⟩ := h3
  rw [G_ways hw hF, ob1_s, ok_s, wys_cnt hw]
  exact ⟨rfl, GF_scr hfr⟩
theorem law_explanations (h : St D d g us sv e f ln cs om os) : ok (f_W_law_2129 L xs (J i) d) (fun y => ∃ d', y = .inl (J i + 5, d') ∧ Inv D d') := by
  refine tail_s (c := 0) h (C_explan h.sim h.wf.wg) (fun d1 hs hp => ?_)
  have hm := MO_code hp.1 hp.2.1 0
  show ok (ob1 (f_M_ways (wr d1 292 7 (J 0))) fun r2 => some (r2, wr d1 292 7 (J 0))) _
  rw [M_ways hm.2.1 h.wf.wg, ob1_s, ok_s]
  exact ⟨rfl, hm⟩
theorem ffs_spec {t : Nat} : ∀ n, (∀ k, k < n → admB g sAll k (g 0) = true → ffs g t n ≤ cntF g sAll k (g 4)) ∧ (ffs g t n = t ∨ ∃ k, k < n ∧ admB g sAll k (g 0) = true ∧ ffs g t n = cntF g sAll k (g 4)) := by
  intro n
  induction n with
  | zero => exact ⟨fun k hk => absurd hk (Nat.not_lt_zero k), Or.inl rfl⟩
  | succ n ih =>
    have e : ffs g t (n + 1) = if admB g sAll n (g 0) = true then min (ffs g t n) (cntF g sAll n (g 4)) else ffs g t n := rfl
    rw [e]
    obtain ⟨i1, i2⟩ := ih
    by_cases h : admB g sAll n (g 0) = true
    · rw [if_p h]
      refine ⟨fun k hk ha => ?_, ?_⟩
      · rcases (by omega : k < n ∨ k = n) with q | rfl
        · have := i1 k q ha
          omega
        · omega
      · by_cases q : ffs g t n ≤ cntF g sAll n (g 4)
        · rw [Nat.min_eq_left q]
          rcases i2 with i2 | ⟨k, k1, k2⟩
          · exact Or.inl i2
          · exact Or.inr ⟨k, by omega, k2⟩
        · rw [Nat.min_eq_right (by omega)]
          exact Or.inr ⟨n, Nat.lt_succ_self n, h, rfl⟩
    · rw [if_n h]
      refine ⟨fun k hk ha => ?_, ?_⟩
      · rcases (by omega : k < n ∨ k = n) with q | rfl
        · exact i1 k q ha
        · exact absurd ha h
      · rcases i2 with i2 | ⟨k, k1, k2⟩
        · exact Or.inl i2
        · exact Or.inr ⟨k, by omega, k2⟩
theorem pc_step : pc x (n + 1) = pc x n + (if x.testBit n then 1 else 0) := rfl
theorem pc_mono2 : ∀ k, pc x n ≤ pc x (n + k) := by
  intro k
  induction k with
  | zero => exact Nat.le_refl _
  | succ k ih =>
    show _ ≤ pc x (n + k) + _
    omega
theorem not_bit {k : Nat} (hk : k < 32) : (J x ^^^ -J 1).toBitVec.getLsbD k = !x.testBit k := by rw [J_not hk, J_lsb hk]
/-- the false ones are among the dropped ones -/
theorem cntF_drop (hw : WG g) (h : exB g (J x ^^^ -J 1) a = true) : ∀ n, n ≤ g 4 → cntF g sAll a n ≤ pc x n := by
  have h12 := hw.ns
  unfold exB at h
  rw [Bool.and_eq_true, trB_iff] at h
  intro n
  induction n with
  | zero => intro _; exact Nat.le_refl _
  | succ n ih =>
    intro hn
    have := ih (by omega)
    show cntF g sAll a n + (if sAll (g (151 + 3 * n)) && !tr g a n then 1 else 0) ≤ pc x n + (if x.testBit n then 1 else 0)
    cases hx : x.testBit n with
    | true =>
      show _ ≤ pc x n + 1
      by_cases t : (sAll (g (151 + 3 * n)) && !tr g a n) = true
      · rw [if_p t]; omega
      · rw [if_n t]; omega
    | false =>
      have ht := h.2 n ⟨by omega, by rw [not_bit (by omega), hx]; rfl⟩
      rw [ht]
      show cntF g sAll a n + 0 ≤ pc x n + 0
      omega
theorem cntF_mk : ∀ n k, n ≤ k → pc (mkB (fun q => !tr g a q) k) n = cntF g sAll a n := by
  intro n
  induction n with
  | zero => intro _ _; rfl
  | succ n ih =>
    intro k hk
    show pc (mkB (fun q => !tr g a q) k) n + (if (mkB (fun q => !tr g a q) k).testBit n then 1 else 0) = cntF g sAll a n + (if sAll (g (151 + 3 * n)) && !tr g a n then 1 else 0)
    rw [ih k (by omega), mkB_at (by omega)]
    rfl
theorem pc_top (h : x < 2 ^ n) : ∀ k, pc x (n + k) = pc x n := by
  intro k
  induction k with
  | zero => rfl
  | succ k ih =>
    have : x < 2 ^ (n + k) := Nat.lt_of_lt_of_le h (Nat.pow_le_pow_right (by decide) (by omega))
    show pc x (n + k) + (if x.testBit (n + k) then 1 else 0) = pc x n
    rw [ih, Nat.testBit_lt_two_pow this]
    rfl
theorem pos_ex {p : Nat → Bool} : 0 < cntN p n ↔ ∃ k, k < n ∧ p k = true := by
  have h1 := cntN_zero (p := p) n
  have h2 := anyN_iff (p := p) n
  refine ⟨fun h => ?_, fun h => ?_⟩
  · cases q : anyN p n with
    | true => exact h2.mp q
    | false => have := h1.mpr q; omega
  · have := h2.mpr h
    apply Classical.byContradiction
    intro hn
    rw [h1.mp (by omega)] at this
    cases this
theorem least_eq {v : Nat} (hw : WG g) (h1 : v ≤ g 4) (h2 : v = g 4 ∨ ∃ k, 0 < cntN (exB g (J k ^^^ -J 1)) (2 ^ g 0) ∧ v = pc k 12) (h3 : ∀ k, k < 2 ^ g 4 → 0 < cntN (exB g (J k ^^^ -J 1)) (2 ^ g 0) → v ≤ pc k 12) : v = ffs g (g 4) (2 ^ g 0) := by
  have h12 := hw.ns
  obtain ⟨s1, s2⟩ := ffs_spec (g := g) (t := g 4) (2 ^ g 0)
  have s0 := ffs_le (g := g) (t := g 4) (2 ^ g 0)
  apply Nat.le_antisymm
  · rcases s2 with s2 | ⟨a, a1, a2, a3⟩
    · omega
    · have hlt : mkB (fun q => !tr g a q) (g 4) < 2 ^ g 4 := mkB_lt
      have hp := h3 (mkB (fun q => !tr g a q) (g 4)) hlt (pos_ex.mpr ⟨a, a1, by
        unfold exB
        rw [Bool.and_eq_true, trB_iff]
        refine ⟨a2, fun q hq => ?_⟩
        have := hq.2
        have hq1 := hq.1
        rw [not_bit (by omega), mkB_at hq1, Bool.not_not] at this
        exact this⟩)
      have e1 := pc_top hlt (12 - g 4)
      rw [show g 4 + (12 - g 4) = 12 by omega, cntF_mk (g 4) (g 4) (Nat.le_refl _)] at e1
      omega
  · rcases h2 with h2 | ⟨k, k1, k2⟩
    · omega
    · obtain ⟨a, a1, a2⟩ := pos_ex.mp k1
      have t1 := cntF_drop hw a2 (g 4) (Nat.le_refl _)
      have t2 := pc_mono2 (x := k) (n := g 4) (12 - g 4)
      rw [show g 4 + (12 - g 4) = 12 by omega] at t2
      have ha : admB g sAll a (g 0) = true := by
        unfold exB at a2
        rw [Bool.and_eq_true] at a2
        exact a2.1
      have := s1 a a1 ha
      omega
theorem C_bySets (hS : Sim d 2 g) (hw : WG g) : ok (f_C_leastFalseBySets d) (fun z => z.1 = J (ffs g (g 4) (2 ^ g 0)) ∧ scr d z.2) := by
  have h12 := hw.ns
  have e22 : d 22 0 = J (g 4) := hS.ns
  have hp : 2 ^ g 4 ≤ 4096 := Nat.le_trans (Nat.pow_le_pow_right (by decide) h12) (by decide)
  have hp0 := Nat.two_pow_pos (g 4)
  have hq := pow256 hw
  unfold f_C_leastFalseBySets f_C_leastFalseBySets_15
  simp only [J_lit]
  rw [e22]
  refine iter_up 0 (2 ^ g 4) (fun n z => ∃ v d5, z = (J v, J n, d5) ∧ scr d d5 ∧ v ≤ g 4 ∧ (v = g 4 ∨ ∃ k, 0 < cntN (exB g (J k ^^^ -J 1)) (2 ^ g 0) ∧ v = pc k 12) ∧ ∀ k, k < n → 0 < cntN (exB g (J k ^^^ -J 1)) (2 ^ g 0) → v ≤ pc k 12) ⟨g 4, d, rfl, fun _ _ => rfl, Nat.le_refl _, Or.inl rfl, fun k hk => absurd hk (Nat.not_lt_zero k)⟩ (by omega) (by omega) ?_ ?_
  · intro n z hn hz
    obtain ⟨v, d5, rfl, z1, z2, z3, z4⟩ := hz
    have hpc := pc_le (c := n) 12
    unfold st_C_leastFalseBySets_15
    simp only [J_lit]
    rw [J_shl (by omega), if_n (fun q => by have := (J_le (by omega) (by omega)).mp q; omega), J_bc (by omega), ob1_s, J_add]
    by_cases q : v ≤ pc n 12
    · rw [if_p ((J_le (by omega) (by omega)).mpr q), ok_s]
      refine Or.inl ⟨_, rfl, v, d5, rfl, z1, z2, z3, fun k hk => ?_⟩
      rcases (by omega : k < n ∨ k = n) with t | rfl
      · exact z4 k t
      · exact fun _ => q
    · rw [if_n (fun t => q ((J_le (by omega) (by omega)).mp t)), ok_ob1]
      refine ok_mono (G_find (z1.sim hS hw) hw) (fun d6 h6 => ?_)
      obtain ⟨⟨l, s, c, hF⟩, hfr⟩ := h6
      have hs6 : scr d d6 := fun k hk => by rw [hfr k (by omega)]; exact z1 k hk
      have hcl := cntN_le (p := exB g (J n ^^^ -J 1)) (2 ^ g 0)
      rw [G_ways hw hF, ob1_s]
      by_cases q2 : 0 < cntN (exB g (J n ^^^ -J 1)) (2 ^ g 0)
      · rw [if_n (fun t => by have := (J_le (by omega) (by omega)).mp t; omega), ok_s]
        refine Or.inl ⟨_, rfl, pc n 12, d6, rfl, hs6, by omega, Or.inr ⟨n, q2, rfl⟩, fun k hk hk2 => ?_⟩
        rcases (by omega : k < n ∨ k = n) with t | rfl
        · have := z4 k t hk2
          omega
        · exact Nat.le_refl _
      · rw [if_p ((J_le (by omega) (by omega)).mpr (by omega)), ok_s]
        refine Or.inl ⟨_, rfl, v, d6, rfl, hs6, z2, z3, fun k hk hk2 => ?_⟩
        rcases (by omega : k < n ∨ k = n) with t | rfl
        · exact z4 k t hk2
        · exact absurd hk2 q2
  · intro z hz
    obtain ⟨v, d5, rfl, z1, z2, z3, z4⟩ := hz
    unfold st_C_leastFalseBySets_15
    simp only [J_lit]
    rw [J_shl (by omega), if_p ((J_le (by omega) (by omega)).mpr (Nat.le_refl _)), ok_ir, ok_s]
    refine ⟨_, rfl, ?_, z1⟩
    dsimp only
    rw [least_eq hw z2 z3 z4]
theorem law_bySets (h : St D d g us sv e f ln cs om os) : ok (f_W_law_2168 L xs (J i) d) (fun y => ∃ d', y = .inl (J i + 5, d') ∧ Inv D d') := by
  refine tail_s (c := 0) h (C_bySets h.sim h.wf.wg) (fun d1 hs hp => ?_)
  have hm := MO_code hp.1 hp.2.1 0
  show ok (ob1 (f_M_fewestFalse (wr d1 292 7 (J 0))) fun r2 => some (r2, wr d1 292 7 (J 0))) _
  rw [M_fewest hm.2.1 h.wf.wg, ob1_s, ok_s]
  exact ⟨rfl, hm⟩
end WAYS2
