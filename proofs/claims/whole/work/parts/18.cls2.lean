/-! 18: the class's undo stack, its present state -/
def HS (d : Dt) (us : List (Nat → Nat)) : Prop := d 0 10 = J us.length ∧ ∃ nu, nu < 8 ∧ d 0 9 = J nu ∧ ∀ j, j < us.length → Sim d (77 + 25 * ((nu + 8 - us.length + j) % 8)) (us.getD j zg)
theorem mnI_J {a b : Nat} (ha : a < 2147483648) (hb : b < 2147483648) : mnI (J a) (J b) = J (min a b) := by
  unfold mnI
  by_cases h : b < a
  · rw [if_p ((J_lt hb ha).mpr h), Nat.min_eq_right (by omega)]
  · rw [if_n (fun q => h ((J_lt hb ha).mp q)), Nat.min_eq_left (by omega)]
theorem mxI_J {a b : Nat} (ha : a < 2147483648) (hb : b < 2147483648) : mxI (J a) (J b) = J (max a b) := by
  unfold mxI
  by_cases h : a < b
  · rw [if_p ((J_lt ha hb).mpr h), Nat.max_eq_right (by omega)]
  · rw [if_n (fun q => h ((J_lt ha hb).mp q)), Nat.max_eq_left (by omega)]
/-- the stack takes the state that was copied into the free place -/
theorem HS_push {D : Nat} {d d3 d' : Dt} {us : List (Nat → Nat)} {g : Nat → Nat} {nu : Nat} (hu : ∀ u ∈ us, WF D u) (hl : us.length ≤ 8) (hnu : nu < 8) (hs : ∀ j, j < us.length → Sim d (77 + 25 * ((nu + 8 - us.length + j) % 8)) (us.getD j zg)) (hc : Sim d3 (77 + 25 * nu) g) (hf : ∀ k, k < 77 + 25 * nu ∨ 77 + 25 * nu + 25 ≤ k → d3 k = d k) (h9 : d' 0 9 = J ((nu + 1) % 8)) (h10 : d' 0 10 = J (min (us.length + 1) 8)) (hk : ∀ k, k ≠ 0 → d' k = d3 k) (hg : g 0 ≤ 8) : HS d' (pushU us g) := by
  have hsame : ∀ s, s < 8 → s ≠ nu → ∀ u, u 0 ≤ 8 → Sim d (77 + 25 * s) u → Sim d' (77 + 25 * s) u := by
    intro s h8 hne u hu0 hS
    refine hS.same hu0 (fun k h1 h2 => ?_)
    rw [hk k (by omega), hf k (by omega)]
  have hnew : Sim d' (77 + 25 * nu) g := hc.same hg (fun k h1 h2 => hk k (by omega))
  have hlen : (pushU us g).length = min (us.length + 1) 8 := by
    unfold pushU
    by_cases h8 : us.length = 8
    · rw [if_pos h8, List.length_append, List.length_tail, h8]
      rfl
    · rw [if_neg h8, List.length_append]
      show us.length + 1 = _
      omega
  refine ⟨by rw [h10, hlen], (nu + 1) % 8, by omega, h9, fun j hj => ?_⟩
  rw [hlen] at hj ⊢
  unfold pushU
  by_cases h8 : us.length = 8
  · rw [if_pos h8]
    have ht : us.tail.length = 7 := by rw [List.length_tail, h8]
    by_cases hj7 : j = 7
    · subst hj7
      rw [List.getD_eq_getElem?_getD, List.getElem?_append_right (by omega), ht, show ((nu + 1) % 8 + 8 - min (us.length + 1) 8 + 7) % 8 = nu by omega]
      exact hnew
    · rw [List.getD_eq_getElem?_getD, List.getElem?_append_left (by omega), List.getElem?_tail, ← List.getD_eq_getElem?_getD, show ((nu + 1) % 8 + 8 - min (us.length + 1) 8 + j) % 8 = (nu + 8 - us.length + (j + 1)) % 8 by omega]
      exact hsame _ (by omega) (by omega) _ (hu _ (getD_mem (by omega))).nl (hs (j + 1) (by omega))
  · rw [if_neg h8]
    by_cases hjl : j = us.length
    · subst hjl
      rw [List.getD_eq_getElem?_getD, List.getElem?_append_right (by omega), Nat.sub_self, show ((nu + 1) % 8 + 8 - min (us.length + 1) 8 + us.length) % 8 = nu by omega]
      exact hnew
    · rw [List.getD_eq_getElem?_getD, List.getElem?_append_left (by omega), ← List.getD_eq_getElem?_getD, show ((nu + 1) % 8 + 8 - min (us.length + 1) 8 + j) % 8 = (nu + 8 - us.length + j) % 8 by omega]
      exact hsame _ (by omega) (by omega) _ (hu _ (getD_mem (by omega))).nl (hs j (by omega))
/-- cells below 292 that a change of the class may touch beside the present state and the stack: none -/
def CO (d d' : Dt) (us' : List (Nat → Nat)) (g' : Nat → Nat) : Prop :=
  HS d' us' ∧ Sim d' 2 g' ∧ (∀ k, k ≠ 0 → (k < 2 ∨ 27 ≤ k) → (k < 77 ∨ 277 ≤ k) → d' k = d k) ∧ ∀ j, j ≠ 9 → j ≠ 10 → d' 0 j = d 0 j
theorem C_remember_gen {D : Nat} {d : Dt} {us : List (Nat → Nat)} {g : Nat → Nat} {b : Nat} {k33 : Int32 → Dt → Option Dt} (hb : b = 2 ∨ b = 27) (hk33 : ∀ v d, k33 v d = bnd (wr d 0 9 v) fun d1 => bnd (wr d1 0 10 (mnI ((d1 0 10) + 1) 8)) fun d2 => some d2) (hw : WF D g) (hu : ∀ u ∈ us, WF D u) (hl : us.length ≤ 8) (hS : Sim d b g) (hH : HS d us) : ok (gd (inb (d 0 9) 8) <| ob1 (f_S_copyFrom (77 + 25 * (d 0 9).toNatClampNeg) b d) fun d3 => if (d3 0 9) = 7 then k33 0 d3 else k33 ((d3 0 9) + 1) d3) (fun d' => HS d' (pushU us g) ∧ (∀ k, k ≠ 0 → (k < 77 ∨ 277 ≤ k) → d' k = d k) ∧ ∀ j, j ≠ 9 → j ≠ 10 → d' 0 j = d 0 j) := by
  obtain ⟨h10, nu, hnu, h9, hs⟩ := hH
  rw [h9, J_inb (by omega), gd_d hnu, ok_ob1, J_nat (by omega)]
  refine ok_mono (S_copyFrom (a := 77 + 25 * nu) (b := b) (by omega) d (Sim_bt hS)) (fun d3 h3 => ?_)
  have hc : Sim d3 (77 + 25 * nu) g := hS.alike hw h3.1
  have e9 : d3 0 9 = J nu := by rw [h3.2 0 (by omega)]; exact h9
  have e10 : d3 0 10 = J us.length := by rw [h3.2 0 (by omega)]; exact h10
  have fin : ∀ v, v = (nu + 1) % 8 → ok (k33 (J v) d3) (fun d' => HS d' (pushU us g) ∧ (∀ k, k ≠ 0 → (k < 77 ∨ 277 ≤ k) → d' k = d k) ∧ ∀ j, j ≠ 9 → j ≠ 10 → d' 0 j = d 0 j) := by
    intro v hv
    rw [hk33, ok_bnd, ok_bnd, ok_s, wr_j (by decide), e10, show (J us.length + 1 : Int32) = J (us.length + 1) from J_add, show (8 : Int32) = J 8 from rfl, mnI_J (by omega) (by decide)]
    refine ⟨HS_push hu hl hnu hs hc h3.2 ?_ wr_s (fun k hk => ?_) hw.nl, fun k hk hk2 => ?_, fun j h1 h2 => ?_⟩
    · rw [wr_j (by decide), wr_s, hv]
    · rw [wr_k hk, wr_k hk]
    · rw [wr_k hk, wr_k hk, h3.2 k (by omega)]
    · rw [wr_j h2, wr_j h1, h3.2 0 (by omega)]
  rw [e9]
  by_cases h7 : nu = 7
  · rw [h7, if_p (show J 7 = 7 from rfl)]
    exact fin 0 (by omega)
  · rw [if_n (show ¬ J nu = 7 from fun q => h7 ((J_inj (by omega) (by decide)).mp (show J nu = J 7 from q))), show (J nu + 1 : Int32) = J (nu + 1) from J_add]
    exact fin (nu + 1) (by omega)
theorem C_remember {D : Nat} {d : Dt} {us : List (Nat → Nat)} {g : Nat → Nat} (hw : WF D g) (hu : ∀ u ∈ us, WF D u) (hl : us.length ≤ 8) (hS : Sim d 2 g) (hH : HS d us) : ok (f_C_remember d) (fun d' => CO d d' (pushU us g) g) := by
  unfold f_C_remember
  refine ok_mono (C_remember_gen (b := 2) (k33 := f_C_remember_33) (Or.inl rfl) (fun v d => rfl) hw hu hl hS hH) (fun d' h => ?_)
  refine ⟨h.1, hS.same hw.nl (fun k h1 h2 => h.2.1 k (by omega) (by omega)), fun k h1 h2 h3 => h.2.1 k h1 h3, h.2.2⟩
