/-! 10: the pure layer: 'ok' (a function comes to an end with ..), naturals as ints, loops -/
def ok {T : Type} (o : Option T) (Q : T → Prop) : Prop := ∃ t, o = some t ∧ Q t
theorem ok_s {T : Type} {t : T} {Q : T → Prop} : ok (some t) Q ↔ Q t := ⟨fun ⟨_, e, h⟩ => Option.some.inj e ▸ h, fun h => ⟨t, rfl, h⟩⟩
theorem ok_n {T : Type} {Q : T → Prop} : ok (none : Option T) Q ↔ False := ⟨fun ⟨_, e, _⟩ => (nomatch e), fun h => h.elim⟩
theorem ok_gd {T : Type} {b : Bool} {o : Option T} {Q : T → Prop} : ok (gd b o) Q ↔ b = true ∧ ok o Q := by
  cases b with
  | true => exact ⟨fun h => ⟨rfl, h⟩, fun h => h.2⟩
  | false => exact ⟨fun ⟨_, e, _⟩ => (nomatch e), fun h => (nomatch h.1)⟩
theorem ok_ob1 {A T : Type} {a : Option A} {k : A → Option T} {Q : T → Prop} : ok (ob1 a k) Q ↔ ok a (fun r => ok (k r) Q) := by
  cases a with
  | none => exact ⟨fun ⟨_, e, _⟩ => (nomatch e), fun ⟨_, e, _⟩ => nomatch e⟩
  | some r => exact ⟨fun h => ⟨_, rfl, h⟩, fun ⟨_, e, h⟩ => by cases e; exact h⟩
theorem ok_ob2 {A B T : Type} {a : Option (A × B)} {k : A → B → Option T} {Q : T → Prop} : ok (ob2 a k) Q ↔ ok a (fun r => ok (k r.1 r.2) Q) := by
  cases a with
  | none => exact ⟨fun ⟨_, e, _⟩ => (nomatch e), fun ⟨_, e, _⟩ => nomatch e⟩
  | some r => exact ⟨fun h => ⟨_, rfl, h⟩, fun ⟨_, e, h⟩ => by cases e; exact h⟩
theorem ok_bnd {A T : Type} {a : A} {k : A → Option T} {Q : T → Prop} : ok (bnd a k) Q ↔ ok (k a) Q := Iff.rfl
theorem ok_ir {S T : Type} {o : Option T} {Q : S ⊕ T → Prop} : ok (ir o) Q ↔ ok o (fun t => Q (.inr t)) := by
  cases o with
  | none => exact ⟨fun ⟨_, e, _⟩ => (nomatch e), fun ⟨_, e, _⟩ => nomatch e⟩
  | some r => exact ⟨fun ⟨_, e, h⟩ => by cases e; exact ⟨_, rfl, h⟩, fun ⟨_, e, h⟩ => by cases e; exact ⟨_, rfl, h⟩⟩
theorem ok_ite {c : Prop} [Decidable c] {T : Type} {a b : Option T} {Q : T → Prop} : ok (if c then a else b) Q ↔ (c → ok a Q) ∧ (¬ c → ok b Q) := by
  by_cases h : c
  · rw [if_pos h]; exact ⟨fun q => ⟨fun _ => q, fun n => absurd h n⟩, fun q => q.1 h⟩
  · rw [if_neg h]; exact ⟨fun q => ⟨fun n => absurd n h, fun _ => q⟩, fun q => q.2 h⟩
theorem ok_ocW {T : Type} {a : Option ((Int32 × Dt) ⊕ (Nat × Dt))} {kI : Int32 → Dt → Option T} {kT : Nat → Dt → Option T} {Q : T → Prop} : ok (ocW a kI kT) Q ↔ ok a (fun z => Sum.elim (fun r => ok (kI r.1 r.2) Q) (fun q => ok (kT q.1 q.2) Q) z) := by
  rcases a with _ | r | q
  · exact ⟨fun ⟨_, e, _⟩ => (nomatch e), fun ⟨_, e, _⟩ => nomatch e⟩
  · exact ⟨fun h => ⟨_, rfl, h⟩, fun ⟨_, e, h⟩ => by cases e; exact h⟩
  · exact ⟨fun h => ⟨_, rfl, h⟩, fun ⟨_, e, h⟩ => by cases e; exact h⟩
theorem ok_ocR {T : Type} {a : Option (Int32 ⊕ Nat)} {kI : Int32 → Option T} {kT : Nat → Option T} {Q : T → Prop} : ok (ocR a kI kT) Q ↔ ok a (fun z => Sum.elim (fun r => ok (kI r) Q) (fun q => ok (kT q) Q) z) := by
  rcases a with _ | r | q
  · exact ⟨fun ⟨_, e, _⟩ => (nomatch e), fun ⟨_, e, _⟩ => nomatch e⟩
  · exact ⟨fun h => ⟨_, rfl, h⟩, fun ⟨_, e, h⟩ => by cases e; exact h⟩
  · exact ⟨fun h => ⟨_, rfl, h⟩, fun ⟨_, e, h⟩ => by cases e; exact h⟩
theorem ok_ocU {T : Type} {a : Option (Unit ⊕ Nat)} {kI : Option T} {kT : Nat → Option T} {Q : T → Prop} : ok (ocU a kI kT) Q ↔ ok a (fun z => Sum.elim (fun _ => ok kI Q) (fun q => ok (kT q) Q) z) := by
  rcases a with _ | r | q
  · exact ⟨fun ⟨_, e, _⟩ => (nomatch e), fun ⟨_, e, _⟩ => nomatch e⟩
  · exact ⟨fun h => ⟨_, rfl, h⟩, fun ⟨_, e, h⟩ => by cases e; exact h⟩
  · exact ⟨fun h => ⟨_, rfl, h⟩, fun ⟨_, e, h⟩ => by cases e; exact h⟩
theorem ok_ocV {T : Type} {a : Option (Dt ⊕ (Nat × Dt))} {kI : Dt → Option T} {kT : Nat → Dt → Option T} {Q : T → Prop} : ok (ocV a kI kT) Q ↔ ok a (fun z => Sum.elim (fun r => ok (kI r) Q) (fun q => ok (kT q.1 q.2) Q) z) := by
  rcases a with _ | r | q
  · exact ⟨fun ⟨_, e, _⟩ => (nomatch e), fun ⟨_, e, _⟩ => nomatch e⟩
  · exact ⟨fun h => ⟨_, rfl, h⟩, fun ⟨_, e, h⟩ => by cases e; exact h⟩
  · exact ⟨fun h => ⟨_, rfl, h⟩, fun ⟨_, e, h⟩ => by cases e; exact h⟩
theorem ok_mono {T : Type} {o : Option T} {Q Q' : T → Prop} (h : ok o Q) (k : ∀ t, Q t → Q' t) : ok o Q' := by
  obtain ⟨t, e, q⟩ := h
  exact ⟨t, e, k t q⟩
theorem ok_of {T : Type} {o : Option T} {t : T} {Q : T → Prop} (e : o = some t) (q : Q t) : ok o Q := ⟨t, e, q⟩
theorem ok_eq {T : Type} {o : Option T} {t : T} (h : ok o (fun x => x = t)) : o = some t := by
  obtain ⟨x, e, q⟩ := h
  rw [e, q]
theorem ok_and {T : Type} {o : Option T} {Q Q' : T → Prop} (h : ok o Q) (h' : ok o Q') : ok o (fun x => Q x ∧ Q' x) := by
  obtain ⟨x, e, q⟩ := h
  obtain ⟨y, e', q'⟩ := h'
  rw [e] at e'
  cases e'
  exact ⟨x, e, q, q'⟩
/-- a loop that counts from i up to N -/
theorem iter_upF {S X : Type} {step : S → Option (S ⊕ X)} {Q : X → Prop} (N : Nat) (P : Nat → S → Prop) (body : ∀ i s, i < N → P i s → ok (step s) (fun y => (∃ s', y = .inl s' ∧ P (i + 1) s') ∨ ∃ x, y = .inr x ∧ Q x)) (end_ : ∀ s, P N s → ok (step s) (fun y => ∃ x, y = .inr x ∧ Q x)) : ∀ f i s, i ≤ N → N < i + f → P i s → ok (iter f step s) Q := by
  intro f
  induction f with
  | zero => intro i s h1 h2; omega
  | succ f ih =>
    intro i s h1 h2 hP
    by_cases hi : i < N
    · obtain ⟨y, ey, hy⟩ := body i s hi hP
      rcases hy with ⟨s', rfl, h⟩ | ⟨x, rfl, h⟩
      · show ok (iter (f + 1) step s) Q
        unfold iter
        rw [ey]
        exact ih (i + 1) s' hi (by omega) h
      · show ok (iter (f + 1) step s) Q
        unfold iter
        rw [ey]
        exact ⟨x, rfl, h⟩
    · have e : i = N := by omega
      subst e
      obtain ⟨y, ey, x, rfl, h⟩ := end_ s hP
      show ok (iter (f + 1) step s) Q
      unfold iter
      rw [ey]
      exact ⟨x, rfl, h⟩
theorem iter_up {S X : Type} {step : S → Option (S ⊕ X)} {Q : X → Prop} {s : S} (i N : Nat) (P : Nat → S → Prop) (hP : P i s) (hi : i ≤ N) (hN : N < 5000) (body : ∀ i s, i < N → P i s → ok (step s) (fun y => (∃ s', y = .inl s' ∧ P (i + 1) s') ∨ ∃ x, y = .inr x ∧ Q x)) (end_ : ∀ s, P N s → ok (step s) (fun y => ∃ x, y = .inr x ∧ Q x)) : ok (iter fu step s) Q :=
  iter_upF N P body end_ fu i s hi (by show N < i + 5000; omega) hP
/-- a loop with a measure -/
theorem iter_meF {S X : Type} {step : S → Option (S ⊕ X)} {Q : X → Prop} (P : Nat → S → Prop) (body : ∀ n s, P n s → ok (step s) (fun y => (∃ s' m, m < n ∧ y = .inl s' ∧ P m s') ∨ ∃ x, y = .inr x ∧ Q x)) : ∀ f n s, n < f → P n s → ok (iter f step s) Q := by
  intro f
  induction f with
  | zero => intro n s h; omega
  | succ f ih =>
    intro n s h hP
    obtain ⟨y, ey, hy⟩ := body n s hP
    show ok (iter (f + 1) step s) Q
    unfold iter
    rw [ey]
    rcases hy with ⟨s', m, hm, rfl, h'⟩ | ⟨x, rfl, h'⟩
    · exact ih m s' (by omega) h'
    · exact ⟨x, rfl, h'⟩
theorem iter_me {S X : Type} {step : S → Option (S ⊕ X)} {Q : X → Prop} {s : S} (n : Nat) (P : Nat → S → Prop) (hP : P n s) (hn : n < 5000) (body : ∀ n s, P n s → ok (step s) (fun y => (∃ s' m, m < n ∧ y = .inl s' ∧ P m s') ∨ ∃ x, y = .inr x ∧ Q x)) : ok (iter fu step s) Q :=
  iter_meF P body fu n s hn hP
/-- naturals as ints -/
def J (n : Nat) : Int32 := Int32.ofNat n
theorem J_lit {n : Nat} : (OfNat.ofNat n : Int32) = J (OfNat.ofNat n) := Eq.trans (b := J (OfNat.ofNat n)) rfl rfl
theorem J_toInt {n : Nat} (h : n < 2147483648) : (J n).toInt = n := Int32.toInt_ofNat_of_lt h
theorem J_nat {n : Nat} (h : n < 2147483648) : (J n).toNatClampNeg = n := Int32.toNatClampNeg_ofNat_of_lt h
theorem J_add {a b : Nat} : J a + J b = J (a + b) := (Int32.ofNat_add a b).symm
theorem J_mul {a b : Nat} : J a * J b = J (a * b) := (Int32.ofNat_mul a b).symm
theorem J_sub {a b : Nat} (h : b ≤ a) : J a - J b = J (a - b) := by
  have h1 : J a = J (a - b) + J b := by rw [J_add, Nat.sub_add_cancel h]
  rw [h1, Int32.add_sub_cancel]
theorem J_inj {a b : Nat} (ha : a < 2147483648) (hb : b < 2147483648) : J a = J b ↔ a = b := by
  rw [← Int32.toInt_inj, J_toInt ha, J_toInt hb]; omega
theorem J_le {a b : Nat} (ha : a < 2147483648) (hb : b < 2147483648) : J a ≤ J b ↔ a ≤ b := by
  rw [Int32.le_iff_toInt_le, J_toInt ha, J_toInt hb]; omega
theorem J_lt {a b : Nat} (ha : a < 2147483648) (hb : b < 2147483648) : J a < J b ↔ a < b := by
  rw [Int32.lt_iff_toInt_lt, J_toInt ha, J_toInt hb]; omega
theorem J_neg {a : Nat} (ha : a < 2147483648) : ¬ J a < J 0 := by
  rw [J_lt ha (by omega)]; omega
theorem J_ne1 {a : Nat} (ha : a < 2147483648) : (J a = -J 1) ↔ False := by
  rw [← Int32.toInt_inj, J_toInt ha]
  have : (-J 1).toInt = -1 := by decide
  rw [this]
  exact ⟨fun h => by omega, fun h => h.elim⟩
theorem J_1ne {a : Nat} (ha : a < 2147483648) : (-J 1 = J a) ↔ False := by
  rw [eq_comm, J_ne1 ha]
theorem J_0le1 : (J 0 ≤ -J 1) ↔ False := by decide
theorem J_1lt0 : (-J 1 < J 0) ↔ True := by decide
theorem J_inb {a n : Nat} (ha : a < 2147483648) : inb (J a) n = decide (a < n) := by
  unfold inb
  rw [J_nat ha]
  have : (0 : Int32) ≤ J a := (J_le (a := 0) (by omega) ha).mpr (Nat.zero_le a)
  simp [this]
theorem J_div {a b : Nat} (ha : a < 2147483648) (hb : b < 2147483648) : J a / J b = J (a / b) := by
  rw [← Int32.toInt_inj, J_toInt (Nat.lt_of_le_of_lt (Nat.div_le_self a b) ha), Int32.toInt_div_of_ne_right _ _ (fun h => (J_ne1 hb).mp (h.trans rfl)), J_toInt ha, J_toInt hb]
  rfl
theorem J_all (x : Int32) (h : 0 ≤ x) : x = J x.toNatClampNeg := by
  rw [← Int32.toInt_inj, J_toInt x.toNatClampNeg_lt, Int32.toInt_eq_toNatClampNeg h]
theorem J_cases (x : Int32) : x < 0 ∨ ∃ n, n < 2147483648 ∧ x = J n := by
  by_cases h : x < 0
  · exact Or.inl h
  · exact Or.inr ⟨x.toNatClampNeg, x.toNatClampNeg_lt, J_all x (by
      rw [Int32.le_iff_toInt_le]
      have h1 : ¬ x.toInt < (0 : Int32).toInt := fun q => h (Int32.lt_iff_toInt_lt.mpr q)
      omega)⟩
/-- reading behind a write -/
theorem wr_s {d : Dt} {k j : Nat} {v : Int32} : wr d k j v k j = v := by
  unfold wr wrf upd; rw [if_pos rfl, if_pos rfl]
theorem wr_j {d : Dt} {k j j' : Nat} {v : Int32} (h : j' ≠ j) : wr d k j v k j' = d k j' := by
  unfold wr wrf upd; rw [if_pos rfl, if_neg h]
theorem wr_k {d : Dt} {k j k' : Nat} {v : Int32} (h : k' ≠ k) : wr d k j v k' = d k' := by
  unfold wr wrf; rw [if_neg h]
theorem wr_i {d : Dt} {k j j' : Nat} {v : Int32} : wr d k j v k j' = if j' = j then v else d k j' := by
  unfold wr wrf upd; rw [if_pos rfl]
theorem wrf_i {d : Dt} {k : Nat} {f : Nat → Int32} : wrf d k f k = f := if_pos rfl
theorem wrf_k {d : Dt} {k k' : Nat} {f : Nat → Int32} (h : k' ≠ k) : wrf d k f k' = d k' := if_neg h
theorem wr_wrf {d : Dt} {k j : Nat} {v : Int32} : wr d k j v = wrf d k (upd (d k) j v) := rfl
theorem wrf_wrf {d : Dt} {k : Nat} {f f' : Nat → Int32} : wrf (wrf d k f) k f' = wrf d k f' := by
  funext q
  unfold wrf
  by_cases h : q = k
  · rw [if_pos h, if_pos h]
  · rw [if_neg h, if_neg h, if_neg h]
theorem wrf_self {d : Dt} {k : Nat} : wrf d k (d k) = d := by
  funext q
  unfold wrf
  by_cases h : q = k
  · rw [if_pos h, h]
  · rw [if_neg h]
/-- bits -/
theorem J_or {a b : Nat} : J a ||| J b = J (a ||| b) := by
  apply Int32.toBitVec_inj.mp
  show BitVec.ofNat 32 a ||| BitVec.ofNat 32 b = BitVec.ofNat 32 (a ||| b)
  rw [BitVec.ofNat_or]
theorem J_and {a b : Nat} : J a &&& J b = J (a &&& b) := by
  apply Int32.toBitVec_inj.mp
  show BitVec.ofNat 32 a &&& BitVec.ofNat 32 b = BitVec.ofNat 32 (a &&& b)
  rw [BitVec.ofNat_and]
theorem J_xor {a b : Nat} : J a ^^^ J b = J (a ^^^ b) := by
  apply Int32.toBitVec_inj.mp
  show BitVec.ofNat 32 a ^^^ BitVec.ofNat 32 b = BitVec.ofNat 32 (a ^^^ b)
  rw [BitVec.ofNat_xor]
theorem J_m31 {k : Nat} (hk : k < 31) : J k &&& J 31 = J k := by
  rw [J_and]
  congr 1
  have h := Nat.and_two_pow_sub_one_eq_mod k 5
  rw [show 2 ^ 5 - 1 = 31 from rfl] at h
  rw [h]
  exact Nat.mod_eq_of_lt (by omega)
theorem J_shl {k : Nat} (hk : k < 31) : J 1 <<< (J k &&& J 31) = J (2 ^ k) := by
  have h : ∀ k, k < 31 → J 1 <<< (J k &&& J 31) = J (2 ^ k) := by decide +kernel
  exact h k hk
theorem J_bitg {x : Int32} {k : Nat} (hk : k < 31) : (x >>> (J k &&& J 31)) &&& J 1 = J (if x.toBitVec.getLsbD k then 1 else 0) := by
  rw [J_m31 hk]
  apply Int32.toBitVec_inj.mp
  have e2 : (x >>> J k).toBitVec = x.toBitVec.sshiftRight k := by
    have h : ∀ k, k < 31 → ((BitVec.ofNat 32 k).smod 32).toNat = k := by decide +kernel
    show x.toBitVec.sshiftRight (((J k).toBitVec.smod 32).toNat) = _
    rw [show (J k).toBitVec = BitVec.ofNat 32 k from rfl, h k hk]
  show (x >>> J k).toBitVec &&& 1#32 = _
  rw [e2]
  apply BitVec.eq_of_getLsbD_eq
  intro i hi
  rw [BitVec.getLsbD_and, BitVec.getLsbD_sshiftRight]
  by_cases h0 : i = 0
  · subst h0
    cases hb : x.toBitVec.getLsbD k with
    | false => simp [hb, show ¬ 32 ≤ k by omega, J, Int32.toBitVec_ofNat]
    | true => simp [hb, show ¬ 32 ≤ k by omega, J, Int32.toBitVec_ofNat, show k < 32 by omega]
  · have h1 : (1#32).getLsbD i = false := by
      rw [BitVec.getLsbD_ofNat]
      cases i with
      | zero => exact absurd rfl h0
      | succ i => simp [Nat.testBit_succ]
    rw [h1, Bool.and_false]
    cases hb : x.toBitVec.getLsbD k with
    | false => simp [J]
    | true =>
      show false = (1#32).getLsbD i
      rw [h1]
theorem J_lsb {a k : Nat} (hk : k < 32) : (J a).toBitVec.getLsbD k = a.testBit k := by
  show (BitVec.ofNat 32 a).getLsbD k = _
  rw [BitVec.getLsbD_ofNat]
  simp [hk]
theorem J_bit {a k : Nat} (hk : k < 31) : (J a >>> (J k &&& J 31)) &&& J 1 = J (if a.testBit k then 1 else 0) := by
  rw [J_bitg hk, J_lsb (by omega)]
theorem J_not {x : Int32} {k : Nat} (hk : k < 32) : (x ^^^ -J 1).toBitVec.getLsbD k = !x.toBitVec.getLsbD k := by
  show (x.toBitVec ^^^ (-J 1).toBitVec).getLsbD k = _
  have h : ∀ k, k < 32 → (-J 1).toBitVec.getLsbD k = true := by decide +kernel
  rw [BitVec.getLsbD_xor, h k hk, Bool.xor_true]
theorem J_neg1 {k : Nat} (hk : k < 32) : (-J 1).toBitVec.getLsbD k = true := by
  have h : ∀ k, k < 32 → (-J 1).toBitVec.getLsbD k = true := by decide +kernel
  exact h k hk
theorem J_i2c {a : Nat} (ha : a < 65536) : ((J a).toUInt32 % 65536).toInt32 = J a := by
  apply Int32.toBitVec_inj.mp
  apply BitVec.eq_of_toNat_eq
  show ((BitVec.ofNat 32 a) % (65536#32)).toNat = (BitVec.ofNat 32 a).toNat
  have h1 : a % 2 ^ 32 = a := Nat.mod_eq_of_lt (by omega)
  have h2 : 65536 % 2 ^ 32 = 65536 := by decide
  rw [BitVec.toNat_umod, BitVec.toNat_ofNat, BitVec.toNat_ofNat, h1, h2]
  exact Nat.mod_eq_of_lt ha
