/-! 11: what the cells show: a row g of naturals (the reference's layout) -/
theorem gd_d {X : Type} {p : Prop} [Decidable p] {k : Option X} (h : p) : gd (decide p) k = k := by
  rw [decide_eq_true h]
  rfl
def rowN (d : Dt) (k b : Nat) (g : Nat → Nat) : Prop := ∀ j, j < 187 → d k (b + j) = J (g j)
def WF (D : Nat) (g : Nat → Nat) : Prop :=
  (g 0 ≤ 8 ∧ g 1 ≤ D ∧ g 2 ≤ D ∧ g 3 ≤ 10 ∧ g 4 ≤ 12) ∧
  (∀ i, i < g 0 → g (13 + 11 * i) ≤ 9 ∧ g (14 + 11 * i) ≤ 2 ∧ g (15 + 11 * i) ≤ 8 ∧ ∀ j, j < g (15 + 11 * i) → 1 ≤ g (16 + 11 * i + j) ∧ g (16 + 11 * i + j) ≤ 9) ∧
  (∀ k, k < g 3 → g (101 + 5 * k) < g 2 ∧ g (102 + 5 * k) < g 0 ∧ g 1 < g (103 + 5 * k) ∧ g (103 + 5 * k) ≤ g 1 + 12 ∧ 1 ≤ g (104 + 5 * k) ∧ g (104 + 5 * k) ≤ 50 ∧ 1 ≤ g (105 + 5 * k) ∧ g (105 + 5 * k) ≤ 9) ∧
  (∀ k k', k < k' → k' < g 3 → g (101 + 5 * k) < g (101 + 5 * k')) ∧
  (∀ k, k < g 4 → g (151 + 3 * k) < g 0 ∧ g (152 + 3 * k) < g 0 ∧ g (151 + 3 * k) ≠ g (152 + 3 * k) ∧ g (153 + 3 * k) ≤ 1)
theorem WF.mono {D D' : Nat} {g : Nat → Nat} (h : WF D g) (hD : D ≤ D') : WF D' g :=
  ⟨⟨h.1.1, Nat.le_trans h.1.2.1 hD, Nat.le_trans h.1.2.2.1 hD, h.1.2.2.2⟩, h.2⟩
def Sim (d : Dt) (a : Nat) (g : Nat → Nat) : Prop :=
  (d a 0 = J (g 1) ∧ d (a + 1) 0 = J (g 0) ∧ d (a + 14) 1 = J (g 2) ∧ d (a + 14) 0 = J (g 3) ∧ d (a + 20) 0 = J (g 4) ∧ d a 5 = J (g 5) ∧ d a 4 = J (g 6) ∧ d a 7 = J (g 11) ∧ d a 8 = J (g 12)) ∧
  (∀ v, v < 4 → d (a + 24) v = J (g (7 + v))) ∧
  (∀ i, i < g 0 → d (a + 2) i = J (g (13 + 11 * i)) ∧ d (a + 3) i = J (g (14 + 11 * i)) ∧ d (a + 4) i = J (g (15 + 11 * i)) ∧ ∀ j, j < g (15 + 11 * i) → d (a + 6 + i) j = J (g (16 + 11 * i + j))) ∧
  (∀ k, k < g 3 → d (a + 15) k = J (g (101 + 5 * k)) ∧ d (a + 16) k = J (g (102 + 5 * k)) ∧ d (a + 17) k = J (g (103 + 5 * k)) ∧ d (a + 18) k = J (g (104 + 5 * k)) ∧ d (a + 19) k = J (g (105 + 5 * k))) ∧
  (∀ k, k < g 4 → d (a + 21) k = J (g (151 + 3 * k)) ∧ d (a + 22) k = J (g (152 + 3 * k)) ∧ d (a + 23) k = J (g (153 + 3 * k))) ∧
  (∀ k, k < 12 → d (a + 23) k = J 0 ∨ d (a + 23) k = J 1)
section SimA
variable {d d' : Dt} {a D : Nat} {g : Nat → Nat}
theorem Sim.day (h : Sim d a g) : d a 0 = J (g 1) := h.1.1
theorem Sim.nl (h : Sim d a g) : d (a + 1) 0 = J (g 0) := h.1.2.1
theorem Sim.nx (h : Sim d a g) : d (a + 14) 1 = J (g 2) := h.1.2.2.1
theorem Sim.nb (h : Sim d a g) : d (a + 14) 0 = J (g 3) := h.1.2.2.2.1
theorem Sim.ns (h : Sim d a g) : d (a + 20) 0 = J (g 4) := h.1.2.2.2.2.1
theorem Sim.pd (h : Sim d a g) : d a 5 = J (g 5) := h.1.2.2.2.2.2.1
theorem Sim.fs (h : Sim d a g) : d a 4 = J (g 6) := h.1.2.2.2.2.2.2.1
theorem Sim.lp (h : Sim d a g) : d a 7 = J (g 11) := h.1.2.2.2.2.2.2.2.1
theorem Sim.sd (h : Sim d a g) : d a 8 = J (g 12) := h.1.2.2.2.2.2.2.2.2
theorem Sim.hd (h : Sim d a g) {v : Nat} (hv : v < 4) : d (a + 24) v = J (g (7 + v)) := h.2.1 v hv
theorem Sim.bri (h : Sim d a g) {i : Nat} (hi : i < g 0) : d (a + 2) i = J (g (13 + 11 * i)) := (h.2.2.1 i hi).1
theorem Sim.adm (h : Sim d a g) {i : Nat} (hi : i < g 0) : d (a + 3) i = J (g (14 + 11 * i)) := (h.2.2.1 i hi).2.1
theorem Sim.sc (h : Sim d a g) {i : Nat} (hi : i < g 0) : d (a + 4) i = J (g (15 + 11 * i)) := (h.2.2.1 i hi).2.2.1
theorem Sim.sen (h : Sim d a g) {i j : Nat} (hi : i < g 0) (hj : j < g (15 + 11 * i)) : d (a + 6 + i) j = J (g (16 + 11 * i + j)) := (h.2.2.1 i hi).2.2.2 j hj
theorem Sim.bid (h : Sim d a g) {k : Nat} (hk : k < g 3) : d (a + 15) k = J (g (101 + 5 * k)) := (h.2.2.2.1 k hk).1
theorem Sim.bag (h : Sim d a g) {k : Nat} (hk : k < g 3) : d (a + 16) k = J (g (102 + 5 * k)) := (h.2.2.2.1 k hk).2.1
theorem Sim.bld (h : Sim d a g) {k : Nat} (hk : k < g 3) : d (a + 17) k = J (g (103 + 5 * k)) := (h.2.2.2.1 k hk).2.2.1
theorem Sim.bfe (h : Sim d a g) {k : Nat} (hk : k < g 3) : d (a + 18) k = J (g (104 + 5 * k)) := (h.2.2.2.1 k hk).2.2.2.1
theorem Sim.bsv (h : Sim d a g) {k : Nat} (hk : k < g 3) : d (a + 19) k = J (g (105 + 5 * k)) := (h.2.2.2.1 k hk).2.2.2.2
theorem Sim.sfi (h : Sim d a g) {k : Nat} (hk : k < g 4) : d (a + 21) k = J (g (151 + 3 * k)) := (h.2.2.2.2.1 k hk).1
theorem Sim.sse (h : Sim d a g) {k : Nat} (hk : k < g 4) : d (a + 22) k = J (g (152 + 3 * k)) := (h.2.2.2.2.1 k hk).2.1
theorem Sim.sto (h : Sim d a g) {k : Nat} (hk : k < g 4) : d (a + 23) k = J (g (153 + 3 * k)) := (h.2.2.2.2.1 k hk).2.2
theorem Sim.bt (h : Sim d a g) {k : Nat} (hk : k < 12) : d (a + 23) k = J 0 ∨ d (a + 23) k = J 1 := h.2.2.2.2.2 k hk
theorem WF.nl (h : WF D g) : g 0 ≤ 8 := h.1.1
theorem WF.day (h : WF D g) : g 1 ≤ D := h.1.2.1
theorem WF.nx (h : WF D g) : g 2 ≤ D := h.1.2.2.1
theorem WF.nb (h : WF D g) : g 3 ≤ 10 := h.1.2.2.2.1
theorem WF.ns (h : WF D g) : g 4 ≤ 12 := h.1.2.2.2.2
theorem WF.bri (h : WF D g) {i : Nat} (hi : i < g 0) : g (13 + 11 * i) ≤ 9 := (h.2.1 i hi).1
theorem WF.adm (h : WF D g) {i : Nat} (hi : i < g 0) : g (14 + 11 * i) ≤ 2 := (h.2.1 i hi).2.1
theorem WF.sc (h : WF D g) {i : Nat} (hi : i < g 0) : g (15 + 11 * i) ≤ 8 := (h.2.1 i hi).2.2.1
theorem WF.sen (h : WF D g) {i j : Nat} (hi : i < g 0) (hj : j < g (15 + 11 * i)) : 1 ≤ g (16 + 11 * i + j) ∧ g (16 + 11 * i + j) ≤ 9 := (h.2.1 i hi).2.2.2 j hj
theorem WF.br (h : WF D g) {k : Nat} (hk : k < g 3) : g (101 + 5 * k) < g 2 ∧ g (102 + 5 * k) < g 0 ∧ g 1 < g (103 + 5 * k) ∧ g (103 + 5 * k) ≤ g 1 + 12 ∧ 1 ≤ g (104 + 5 * k) ∧ g (104 + 5 * k) ≤ 50 ∧ 1 ≤ g (105 + 5 * k) ∧ g (105 + 5 * k) ≤ 9 := h.2.2.1 k hk
theorem WF.ids (h : WF D g) {k k' : Nat} (h1 : k < k') (h2 : k' < g 3) : g (101 + 5 * k) < g (101 + 5 * k') := h.2.2.2.1 k k' h1 h2
theorem WF.st (h : WF D g) {k : Nat} (hk : k < g 4) : g (151 + 3 * k) < g 0 ∧ g (152 + 3 * k) < g 0 ∧ g (151 + 3 * k) ≠ g (152 + 3 * k) ∧ g (153 + 3 * k) ≤ 1 := h.2.2.2.2 k hk
theorem Sim.same (h : Sim d a g) (h8 : g 0 ≤ 8) (hq : ∀ k, a ≤ k → k < a + 25 → d' k = d k) : Sim d' a g := by
  have q : ∀ o, o < 25 → d' (a + o) = d (a + o) := fun o ho => hq _ (by omega) (by omega)
  have q0 : d' a = d a := hq a (by omega) (by omega)
  unfold Sim
  rw [q0, q 1 (by decide), q 14 (by decide), q 20 (by decide), q 24 (by decide), q 2 (by decide), q 3 (by decide), q 4 (by decide), q 15 (by decide), q 16 (by decide), q 17 (by decide), q 18 (by decide), q 19 (by decide), q 21 (by decide), q 22 (by decide), q 23 (by decide)]
  refine ⟨h.1, h.2.1, fun i hi => ⟨(h.2.2.1 i hi).1, (h.2.2.1 i hi).2.1, (h.2.2.1 i hi).2.2.1, fun j hj => ?_⟩, h.2.2.2⟩
  rw [Nat.add_assoc, q (6 + i) (by omega), ← Nat.add_assoc]
  exact h.sen hi hj
theorem rowN.at (h : rowN d 293 0 g) {j : Nat} (hj : j < 187) : d 293 j = J (g j) := by
  have := h j hj
  rwa [Nat.zero_add] at this
end SimA
/-- the undo stack, the oldest first -/
def pushU (us : List (Nat → Nat)) (g : Nat → Nat) : List (Nat → Nat) := (if us.length = 8 then us.tail else us) ++ [g]
theorem pushU_len {us : List (Nat → Nat)} {g : Nat → Nat} (h : us.length ≤ 8) : (pushU us g).length ≤ 8 := by
  unfold pushU
  by_cases h8 : us.length = 8
  · rw [if_pos h8, List.length_append, List.length_tail]
    show us.length - 1 + 1 ≤ 8
    omega
  · rw [if_neg h8, List.length_append]
    show us.length + 1 ≤ 8
    omega
def zg : Nat → Nat := fun _ => 0
/-- the class beside its present state -/
def CR (d : Dt) (us : List (Nat → Nat)) (sv : Option (Nat → Nat)) (e f : Int32) (ln : Nat) (cs : Nat → Nat) (om : Nat) (os : Nat → Nat) : Prop :=
  (d 0 10 = J us.length ∧ ∃ nu, nu < 8 ∧ d 0 9 = J nu ∧ ∀ j, j < us.length → Sim d (77 + 25 * ((nu + 8 - us.length + j) % 8)) (us.getD j zg)) ∧
  (d 0 11 = J (if sv.isSome then 1 else 0) ∧ ∀ s, sv = some s → Sim d 52 s) ∧
  d 0 12 = e ∧ d 0 13 = f ∧
  (d 287 1 = J ln ∧ ∀ j, j < ln → d 288 j = J (cs j)) ∧
  (d 290 1 = J om ∧ ∀ j, j < om → d 291 j = J (os j)) ∧
  ∃ kd, kd < 8 ∧ d 287 3 = J kd
/-- the reference beside its present state -/
def MR (d : Dt) (us : List (Nat → Nat)) (sv : Option (Nat → Nat)) (e f : Int32) (ln : Nat) (cs : Nat → Nat) (om : Nat) (os : Nat → Nat) : Prop :=
  (d 292 5 = J us.length ∧ ∀ j, j < us.length → rowN d 294 (187 * j) (us.getD j zg)) ∧
  (d 292 4 = J (if sv.isSome then 1 else 0) ∧ ∀ s, sv = some s → rowN d 295 0 s) ∧
  d 292 10 = e ∧ d 292 11 = f ∧
  (d 292 9 = J ln ∧ ∀ j, j < ln → d 297 j = J (cs j)) ∧
  (d 292 13 = J om ∧ ∀ j, j < om → d 298 j = J (os j)) ∧
  d 292 6 = J 0
/-- what is known of all that -/
def WR (D : Nat) (us : List (Nat → Nat)) (sv : Option (Nat → Nat)) (e f : Int32) (ln : Nat) (cs : Nat → Nat) (om : Nat) (os : Nat → Nat) : Prop :=
  (us.length ≤ 8 ∧ ∀ u ∈ us, WF D u) ∧ (∀ s, sv = some s → WF D s) ∧ (e = -J 1 ∨ ∃ n, n ≤ 60 ∧ e = J n) ∧ (f = -J 1 ∨ ∃ n, n ≤ 60 ∧ f = J n) ∧
  (ln ≤ 60 ∧ ∀ j, j < ln → cs j < 65536) ∧ (om ≤ 60 ∧ ∀ j, j < om → os j < 65536)
def Inv (D : Nat) (d : Dt) : Prop := ∃ (g : Nat → Nat) (us : List (Nat → Nat)) (sv : Option (Nat → Nat)) (e f : Int32) (ln : Nat) (cs : Nat → Nat) (om : Nat) (os : Nat → Nat),
  WF D g ∧ WR D us sv e f ln cs om os ∧ Sim d 2 g ∧ CR d us sv e f ln cs om os ∧ rowN d 293 0 g ∧ MR d us sv e f ln cs om os
theorem WR.mono {D D' : Nat} {us : List (Nat → Nat)} {sv : Option (Nat → Nat)} {e f : Int32} {ln : Nat} {cs : Nat → Nat} {om : Nat} {os : Nat → Nat} (h : WR D us sv e f ln cs om os) (hD : D ≤ D') : WR D' us sv e f ln cs om os :=
  ⟨⟨h.1.1, fun u hu => (h.1.2 u hu).mono hD⟩, fun s hs => (h.2.1 s hs).mono hD, h.2.2⟩
theorem getD_mem {us : List (Nat → Nat)} {j : Nat} (h : j < us.length) : us.getD j zg ∈ us := by
  rw [List.getD_eq_getElem?_getD, List.getElem?_eq_getElem h]
  exact List.getElem_mem h
/-- cells that the class's parts beside the present state rest on -/
theorem CR.same {d d' : Dt} {D : Nat} {us : List (Nat → Nat)} {sv : Option (Nat → Nat)} {e f : Int32} {ln : Nat} {cs : Nat → Nat} {om : Nat} {os : Nat → Nat} (h : CR d us sv e f ln cs om os) (hw : WR D us sv e f ln cs om os) (h0 : d' 0 = d 0) (h1 : ∀ k, 52 ≤ k → k < 277 → d' k = d k) (h2 : d' 287 1 = d 287 1) (h3 : d' 287 3 = d 287 3) (h4 : d' 288 = d 288) (h5 : d' 290 = d 290) (h6 : d' 291 = d 291) : CR d' us sv e f ln cs om os := by
  obtain ⟨⟨a1, nu, a2, a3, a4⟩, ⟨b1, b2⟩, c1, c2, c3, c4, c5⟩ := h
  unfold CR
  rw [h0, h2, h3, h4, h5, h6]
  refine ⟨⟨a1, nu, a2, a3, fun j hj => (a4 j hj).same (hw.1.2 _ (getD_mem hj)).nl (fun k g1 g2 => h1 k (by omega) (by omega))⟩, ⟨b1, fun s hs => (b2 s hs).same (hw.2.1 s hs).nl (fun k g1 g2 => h1 k (by omega) (by omega))⟩, c1, c2, c3, c4, c5⟩
theorem MR.same {d d' : Dt} {us : List (Nat → Nat)} {sv : Option (Nat → Nat)} {e f : Int32} {ln : Nat} {cs : Nat → Nat} {om : Nat} {os : Nat → Nat} (h : MR d us sv e f ln cs om os) (h0 : ∀ j, j ≠ 7 → d' 292 j = d 292 j) (h1 : d' 294 = d 294) (h2 : d' 295 = d 295) (h3 : d' 297 = d 297) (h4 : d' 298 = d 298) : MR d' us sv e f ln cs om os := by
  unfold MR rowN at *
  rw [h0 5 (by decide), h0 4 (by decide), h0 10 (by decide), h0 11 (by decide), h0 9 (by decide), h0 13 (by decide), h0 6 (by decide), h1, h2, h3, h4]
  exact h
