/-! 09zd: the start: everything made, then the walk of the law -/
theorem yk_X11_init_ : yOK yX11_init cX11_init 2 (Option.none : Option Jvm.ClassFile.FieldType) 0 := ⟨wA 105 (by decide +kernel) (by decide +kernel), wA 69 (by decide +kernel) (by decide +kernel), by decide, by decide, by decide +kernel⟩
theorem yk_X12_init_ : yOK yX12_init cX12_init 1 (Option.none : Option Jvm.ClassFile.FieldType) 0 := ⟨wA 1473 (by decide +kernel) (by decide +kernel), wA 81 (by decide +kernel) (by decide +kernel), by decide, by decide, by decide +kernel⟩
section GKL
variable {w : wT} {p : Program} {l : Launch} {e : Env} {R : Room} {s : State} {m : MethodId} {args : Array Value} {below : List Frame} {meth : Method} {c : Code} {cc : ByteArray} {nL k0 n0 : Nat} {own : String} {Q : State → Prop} {A : Nat → Prop} {ws : va_W} {lv : List (Nat × Value)} {pc : Nat} {st : List Value}
/-- the call of a public constructor on the cell made last -/
theorem k_initP (C : gCk w p s m args c cc nL own) (hA : ∀ q, s.heap.size ≤ q → A q) (hAW : ∀ q, A q → A_W w q) {ix maxL n2 N mcR msR mc2 ms2 q : Nat} (k1 n1 : Nat) {y : MethodName} {bytes : ByteArray} {fr : va_E} {Sh : Nat → va_W → Prop} (V : yOK y bytes maxL none 0) (hmx : Nat.ble maxL 21 = true) (hlk : Cond.methodLink own ix y ∈ wAll) (hyn : y.name = "<init>") (hin : Cond.instanceMethod y ∈ wAll) (hR : R = gRmX N mcR msR) (hN : Nat.ble (n2 + 1) N = true) (hM : gN w l y bytes maxL n2 mc2 ms2 fr Sh) (hr : Nat.ble st.length 4 = true) (hd : decode cc pc = .ok (.invokespecial ix, 3)) (hk : k0 + mc2 = k1) (hn : n0 + ms2 = n1) (hk1 : Nat.ble k1 mcR = true) (hn1 : Nat.ble n1 msR = true) (k : ∀ u : va_W, Sh q u → gKk w p l e R s m args below meth c nL k1 n1 Q A (ws ++ u) lv (pc + 3) st) : gKk w p l e R s m args below meth c nL k0 n0 Q A (ws ++ [(q, fr)]) lv pc (.ref q :: st) := by
  intro H locs ls hlv hP hD hS
  obtain ⟨hx, hb, hml, hown, hts, hK, hB, hkw, har⟩ := C
  have hNN := Nat.le_of_ble_eq_true hN
  have hmx := Nat.le_of_ble_eq_true hmx
  have hrr := Nat.le_of_ble_eq_true hr
  subst hk
  subst hn
  have hq : (ws ++ [(q, fr)])[ws.length]? = some (q, fr) := by rw [List.getElem?_append_right (Nat.le_refl _), Nat.sub_self]; rfl
  have hAq : A q := hD.2 _ _ hq
  have hPq : va_P (w_G w) vwQ [(q, fr)] H := by
    intro i x hx
    cases i with
    | zero =>
      cases hx
      exact hP _ _ hq
    | succ i => simp at hx
  have hAH : ∀ q', H.size ≤ q' → A q' := fun q' h => hA q' (Nat.le_trans hS.1 h)
  have hsub : ∀ q' : Nat, va_A [(q, fr)] H.size q' → A q' := by
    intro q' h
    rcases h with ⟨j, e9, hj⟩ | hsz
    · cases j with
      | zero =>
        have h9 : q = q' := congrArg Prod.fst (Option.some.inj hj)
        rw [← h9]
        exact hAq
      | succ j => simp at hj
    · exact hAH _ hsz
  have hrun := va_runI (As := []) (rest := st) (Ts := wAll) (cc := cc) (nL := nL) (H := H) (locs := locs) (cells := k0) (slots := n0) (below := below) (meth := meth) (e := e) (g := F0 m pc ls (.ref q :: st)) ⟨hx, hb, hml, hown, hts⟩ (hM q H.size) (cwI (R := R) (own := own) (index := ix) 0 hts (good_call V) rfl rfl rfl (hts _ V.2.1) (hts _ hlk) (hts _ hin) hyn V.2.2 ⟨by rw [hR]; exact hNN, by rw [hR]; show 8 + (maxL + 11) + 40 * n2 ≤ 40 * N; omega⟩) ⟨gNI_blind, fun U hU hW => ⟨rfl, by rw [hU], by rw [hU]; exact hPq, va_K.moved hW.alike hK, kW_go hW (by rw [hU]; exact fun q' h1 h2 => hS.2.1 q' h1 (fun h3 => h2 (hAW _ h3))) hkw, arK_go hW.alike har, hAW _ hAq, Nat.le_trans hB hS.1⟩⟩ rfl rfl hlv.1 rfl (lv_room (by have := rest_sum st; omega)) hd ⟨by rw [hR]; exact Nat.le_of_ble_eq_true hk1, by rw [hR]; exact Nat.le_of_ble_eq_true hn1⟩
  refine va_callv hrun hS (fun q' _ h => hsub q' h) hsub (fun u t H1 locs1 ht hvm hw hB1 hz1 hkk hS1 => ?_)
  obtain ⟨hP1, hD1⟩ := hB1
  rw [ht] at hP1
  obtain ⟨hP2, hD2⟩ := k_joinP hP hD hAH hkk hP1 hD1
  exact k u hw H1 locs1 ls hlv hP2 hD2 hS1
end GKL
abbrev frMod : va_E := (.inr (12, [.null, .null, .null, .null, .int 0, .int 0, .int 0, .int 0, .null, .int 0, .int 0, .int 0, .null, .int 0, .int 0, .null, .int 0]))
set_option maxHeartbeats 4000000 in
set_option maxRecDepth 100000 in
theorem law_make {w : wT} {p : Program} {l : Launch} {e : Env} {R : Room} {s : State} {m : MethodId} {args : Array Value} {below : List Frame} {meth : Method} {c : Code} {Q : State → Prop} {b : Nat} (C : gCk w p s m args c cL_law 9 RL) (hA : ∀ q, s.heap.size ≤ q → A_W w q) (hR : R = gRmX 2048 603072 7194730) (k : ∀ (h hM qo qd : Nat) (u uM : va_W), ShCrt w h u → ShB w shpM mM0 hM uM → gKk w p l e R s m args below meth c 9 302 4972 Q (A_W w) ((((([] : va_W) ++ u) ++ uM) ++ [(qo, (.inl (w_c w 25, 1, .inr (.inl (fun _ => 0))) : va_E))]) ++ [(qd, (.inl (w_c w 26, 1, .inr (.inr (.inr (.inl (fun _ => 0))))) : va_E))]) [(4, .ref qd), (3, .ref qo), (2, .ref hM), (1, .ref h), (0, .ref b)] 25 []) : gKk w p l e R s m args below meth c 9 0 0 Q (A_W w) [] [(0, .ref b)] 0 [] := by
  refine k_new C hA ck_11 (wA 101 (by decide +kernel) (by decide +kernel)) (wA 102 (by decide +kernel) (by decide +kernel)) (wA 69 (by decide +kernel) (by decide +kernel)) (fs := [.null, .null, .null, .null, .null, .null, .null, .null, .null, .int 0, .int 0, .int 0, .int 0, .int 0]) (fun j hj => by rcases (show j = 0 ∨ j = 1 ∨ j = 2 ∨ j = 3 ∨ j = 4 ∨ j = 5 ∨ j = 6 ∨ j = 7 ∨ j = 8 ∨ j = 9 ∨ j = 10 ∨ j = 11 ∨ j = 12 ∨ j = 13 by omega) with rfl | rfl | rfl | rfl | rfl | rfl | rfl | rfl | rfl | rfl | rfl | rfl | rfl | rfl <;> rfl) hR rfl rfl dL_law_0 (fun h => ?_)
  refine k_dup C dL_law_3 ?_
  refine k_initP C hA (fun _ h => h) 292 2621 yk_X11_init_ rfl (wA 103 (by decide +kernel) (by decide +kernel)) rfl (wA 104 (by decide +kernel) (by decide +kernel)) hR rfl n_X11 rfl dL_law_4 rfl rfl rfl rfl (fun u hu => ?_)
  refine k_astore_n C (lv' := [(1, .ref h), (0, .ref b)]) dL_law_7 (by decide) rfl ?_
  refine k_new C hA ck_12 (wA 1469 (by decide +kernel) (by decide +kernel)) (wA 1470 (by decide +kernel) (by decide +kernel)) (wA 81 (by decide +kernel) (by decide +kernel)) (fs := [.null, .null, .null, .null, .int 0, .int 0, .int 0, .int 0, .null, .int 0, .int 0, .int 0, .null, .int 0, .int 0, .null, .int 0]) (fun j hj => by rcases (show j = 0 ∨ j = 1 ∨ j = 2 ∨ j = 3 ∨ j = 4 ∨ j = 5 ∨ j = 6 ∨ j = 7 ∨ j = 8 ∨ j = 9 ∨ j = 10 ∨ j = 11 ∨ j = 12 ∨ j = 13 ∨ j = 14 ∨ j = 15 ∨ j = 16 by omega) with rfl | rfl | rfl | rfl | rfl | rfl | rfl | rfl | rfl | rfl | rfl | rfl | rfl | rfl | rfl | rfl | rfl <;> rfl) hR rfl rfl dL_law_8 (fun hM => ?_)
  refine k_dup C dL_law_11 ?_
  refine k_initP C hA (fun _ h => h) 300 4970 yk_X12_init_ rfl (wA 1471 (by decide +kernel) (by decide +kernel)) rfl (wA 1472 (by decide +kernel) (by decide +kernel)) hR rfl n_X12 rfl dL_law_12 rfl rfl rfl rfl (fun uM huM => ?_)
  refine k_astore_n C (lv' := [(2, .ref hM), (1, .ref h), (0, .ref b)]) dL_law_15 (by decide) rfl ?_
  refine k_iconst C (v := 1) dL_law_16 (by decide) ?_
  refine k_newa C hA (atype := .long) (ty := .long) 25 5 rfl (wA 1964 (by decide +kernel) (by decide +kernel)) rfl pr_long 1 (a0 := (1, .inr (.inl (fun _ => 0)))) (fun _ => rfl) (by decide) (by decide) rfl hR rfl rfl dL_law_17 (fun qo => ?_)
  refine k_astore_n C (lv' := [(3, .ref qo), (2, .ref hM), (1, .ref h), (0, .ref b)]) dL_law_19 (by decide) rfl ?_
  refine k_iconst C (v := 1) dL_law_20 (by decide) ?_
  refine k_newa C hA (atype := .double) (ty := .double) 26 6 rfl (wA 1965 (by decide +kernel) (by decide +kernel)) rfl pr_double 1 (a0 := (1, .inr (.inr (.inr (.inl (fun _ => 0)))))) (fun _ => rfl) (by decide) (by decide) rfl hR rfl rfl dL_law_21 (fun qd => ?_)
  refine k_astore C (lv' := [(4, .ref qd), (3, .ref qo), (2, .ref hM), (1, .ref h), (0, .ref b)]) dL_law_23 (by decide) rfl ?_
  exact k h hM qo qd u uM hu huM
/-- the law's loop, by its pure function -/
theorem law_loop {w : wT} {p : Program} {l : Launch} {e : Env} {R : Room} {s : State} {m : MethodId} {args : Array Value} {below : List Frame} {meth : Method} {c : Code} {b L : Nat} {xs : Nat → Int32} {Q : State → Prop} {dE : Dt} (C : gC w p s m args c cL_law 9 RL) (hl9 : l.stackTraces = false) (hX : va_X b L xs s s.heap) (hb : ¬ A_W w b) (hR : R = gRmX 2048 603072 7194730) (hE : ∀ (d : Dt) (lv : List (Nat × Value)), gG w p l e R s m args below meth c 9 603072 7194730 Q d lv 2927 [.int 1]) : ∀ (f : Nat) (i : Int32) (d : Dt) (k n : Nat), iter f (fun s => st_W_law_28 L xs s.1 s.2) (i, d) = some (1, dE) → k + 8 * f ≤ 603072 → n + 60 * f ≤ 7194730 → gG w p l e R s m args below meth c 9 k n Q d [(0, .ref b), (1, .ref (w_r w 0)), (2, .ref (w_r w 292)), (3, .ref (w_r w 300)), (4, .ref (w_r w 301)), (5, .int i)] 28 [] := by
  intro f
  induction f with
  | zero => intro i d k n h; cases h
  | succ f ih =>
    intro i d k n h hk hn
    unfold iter at h
    cases hy : st_W_law_28 L xs i d with
    | none =>
      simp only [hy] at h
      cases h
    | some y =>
      simp only [hy] at h
      cases y with
      | inl s1 =>
        refine law_step (dE := dE) C hl9 hX hb hR (by omega) (by omega) hE (fun s2 e2 => ?_) (fun z e2 => by cases e2) hy
        cases e2
        exact ih s1.1 s1.2 (k + 8) (n + 60) h (by omega) (by omega)
      | inr z =>
        refine law_step (dE := dE) C hl9 hX hb hR (by omega) (by omega) hE (fun s2 e2 => by cases e2) (fun z2 e2 => ?_) hy
        cases e2
        exact Option.some.inj h
/-- the data heap at the start -/
def d0W : Dt := fun k j => cond (Nat.beq k 0) (cond (Nat.beq j 12) (-1) (cond (Nat.beq j 13) (-1) 0)) (cond (Nat.beq k 292) (mM0 j) 0)
theorem d0_z {k : Nat} (h0 : k ≠ 0) (h1 : k ≠ 292) : d0W k = zW := by
  funext j
  unfold d0W
  have e0 : Nat.beq k 0 = false := by
    cases h : Nat.beq k 0 with
    | false => rfl
    | true => exact absurd (Nat.eq_of_beq_eq_true h) h0
  have e1 : Nat.beq k 292 = false := by
    cases h : Nat.beq k 292 with
    | false => rfl
    | true => exact absurd (Nat.eq_of_beq_eq_true h) h1
  rw [e0, e1]
  rfl

