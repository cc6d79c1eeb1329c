/-! 05x: methods that return or throw -/
abbrev oT : Type := (Option Value × Dt) ⊕ (Nat × Dt)
def eN : Nat → String
  | 0 => "java/lang/IllegalStateException"
  | 1 => "java/lang/IndexOutOfBoundsException"
  | 2 => "java/lang/IllegalArgumentException"
  | 3 => "java/util/NoSuchElementException"
  | 4 => "java/lang/ArithmeticException"
  | _ => "java/lang/UnsupportedOperationException"
def gQX (w : wT) (o : oT) : Array Value → State → Outcome → State → Prop := fun _ st oc t => ∃ ov d', o = .inl (ov, d') ∧ oc = .returned ov ∧ va_P (w_G w) vwQ (wsW w d') t.heap ∧ va_F (A_W w) st t
def gXC (w : wT) (o : oT) : String → State → State → Prop := fun E st t => ∃ e d', o = .inr (e, d') ∧ E = eN e ∧ va_P (w_G w) vwQ (wsW w d') t.heap ∧ va_F (A_W w) st t
def gMX (w : wT) (l : Launch) (y : MethodName) (cc : ByteArray) (maxL : Nat) (ret : Option FieldType) (n mc ms : Nat) (av : List Value) (d : Dt) (o : oT) : Prop :=
  vx_Met l y (Cond.code y cc maxL ret :: wAll) (gRmX n mc ms) (va_Pc av (wI w d)) (gQX w o) (gXC w o) mc ms (A_W w)
def gEX (w : wT) (below : List Frame) (args : Array Value) (s : State) (mc ms : Nat) (o : oT) : State → Prop := vx_MQ below (gQX w o) (gXC w o) args s mc ms (A_W w)
/-- thrown over this frame: an exception of the class eN e0, the data heap being d -/
def gT (w : wT) (p : Program) (l : Launch) (e : Env) (R : Room) (s : State) (m : MethodId) (args : Array Value) (below : List Frame) (meth : Method) (c : Code) (nL k n : Nat) (Q : State → Prop) (d : Dt) (e0 : Nat) (lv : List (Nat × Value)) (pc : Nat) (st : List Value) : Prop :=
  ∀ (H : Heap) (locs : List Loc) (ls : Array Slot) (q : Addr) (ce : Cell), lv_has ls nL lv → va_P (w_G w) vwQ (wsW w d) H → va_S (A_W w) s.heap H locs → H[q]? = some ce → ce.vm = .none → s.vm.findClass (eN e0) = some ce.cls → vx_W p l e R s m args below meth c H locs k n Q (F0 m pc ls st) q
theorem odd_on {x : Cond} (h : oddW x = true) : x.onTables = true := by
  cases x <;> first | rfl | cases h
/-- what the tables say of 'throw new E(text)' -/
def thOK (own : String) (ik ic : Nat) (e0 : Nat) : Prop :=
  Bundle.fit (eN e0) = true ∧ Cond.classLink own ik (eN e0) ∈ wAll ∧ Cond.initialized (eN e0) ∈ wAll ∧ ∀ x ∈ vx_atS own ic (eN e0) ["java/lang/RuntimeException", "java/lang/Exception"], (x ∈ lw_tbl) ∧ (goodWord x = true ∨ oddW x = true) ∧ vx_ot x = true
section GX
variable {w : wT} {p : Program} {l : Launch} {e : Env} {R : Room} {s : State} {m : MethodId} {args : Array Value} {below : List Frame} {meth : Method} {c : Code} {cc : ByteArray} {nL k0 n0 : Nat} {own : String} {Q : State → Prop} {d : Dt} {lv : List (Nat × Value)} {pc : Nat} {st : List Value}
theorem g_afterX {a : Array Value} {rest : List Value} {mc2 ms2 k1 n1 : Nat} {o : oT} {H : Heap} {locs : List Loc} {ls : Array Slot} (hr : vx_Run p l e R s m args below meth c H locs k0 n0 mc2 ms2 (F0 m pc ls st) rest (gQX w o a) (gXC w o) (A_W w)) (hk : k0 + mc2 = k1) (hn : n0 + ms2 = n1) (hl : lv_has ls nL lv) (hS : va_S (A_W w) s.heap H locs) (kI : ∀ ov d', o = .inl (ov, d') → gG w p l e R s m args below meth c nL k1 n1 Q d' lv (pc + 3) (ov.toList ++ rest)) (kT : ∀ e0 d', o = .inr (e0, d') → gT w p l e R s m args below meth c nL k1 n1 Q d' e0 lv pc rest) : W p l e R s m args below meth c H locs k0 n0 Q (F0 m pc ls st) := by
  subst hk
  subst hn
  intro T hT X
  rcases hr T hT X with ⟨v, st₀, t, T', L, h0, X', hL, e1, e2, ⟨ov, d', ho, hv, hp, hz, hkk⟩, stp⟩ | ⟨q, st₀, t, T', L, E, ce, h0, X', hL, e1, e2, ⟨e0, d', ho, hE, hp, hz, hkk⟩, hce, hcv, hcl, stp⟩
  · cases hv
    rw [h0] at hz hkk
    obtain ⟨t2, a1, b1⟩ := kI v d' ho T'.heap (locs ++ L) ls hl (by rw [e1]; exact hp)
      ⟨Nat.le_trans hS.1 (by rw [e1]; exact hz), fun q h1 h2 => by rw [e1, hkk q (Nat.lt_of_lt_of_le h1 hS.1) h2]; exact hS.2.1 q h1 h2, fun q hq => by
        rcases List.mem_append.mp hq with h | h
        · exact hS.2.2 q h
        · exact hL q h⟩ T' rfl X'
    exact ⟨t2, stp t2 a1, b1⟩
  · subst hE
    rw [h0] at hz hkk
    obtain ⟨t2, a1, b1⟩ := kT e0 d' ho T'.heap (locs ++ L) ls q ce hl (by rw [e1]; exact hp)
      ⟨Nat.le_trans hS.1 (by rw [e1]; exact hz), fun q h1 h2 => by rw [e1, hkk q (Nat.lt_of_lt_of_le h1 hS.1) h2]; exact hS.2.1 q h1 h2, fun q hq => by
        rcases List.mem_append.mp hq with h | h
        · exact hS.2.2 q h
        · exact hL q h⟩ (by rw [e1]; exact hce) hcv hcl T' rfl X'
    exact ⟨t2, stp.trans a1, b1⟩
theorem g_callVX (C : gC w p s m args c cc nL own) {ix ci maxL nA n n2 N mcR msR mc2 ms2 : Nat} (k1 n1 : Nat) {y : MethodName} {bytes : ByteArray} {ret : Option FieldType} {As rest : List Value} {o : oT} (q0 : Nat) (hq : isC q0 ci n) (V : vOK own ix ci y bytes maxL ret nA) (hR : R = gRmX N mcR msR) (hN : Nat.ble (n2 + 1) N = true) (hM : gMX w l y bytes maxL ret n2 mc2 ms2 (.ref (w_r w q0) :: As) d o) (hA : As.length = nA) (hr : Nat.ble rest.length 4 = true) (hst : st = As.reverse ++ .ref (w_r w q0) :: rest) (hd : decode cc pc = .ok (.invokevirtual ix, 3)) (hk : k0 + mc2 = k1) (hn : n0 + ms2 = n1) (hk1 : Nat.ble k1 mcR = true) (hn1 : Nat.ble n1 msR = true) (kI : ∀ ov d', o = .inl (ov, d') → gG w p l e R s m args below meth c nL k1 n1 Q d' lv (pc + 3) (ov.toList ++ rest)) (kT : ∀ e0 d', o = .inr (e0, d') → gT w p l e R s m args below meth c nL k1 n1 Q d' e0 lv pc rest) : gG w p l e R s m args below meth c nL k0 n0 Q d lv pc st := by
  intro H locs ls hl hP hS
  obtain ⟨hY, hmx, hlk, hin, hsel, T, ty, NN, K⟩ := V
  obtain ⟨hx, hb, hml, hown, hts, hK, hO, hB, hkw⟩ := C
  have hNN := Nat.le_of_ble_eq_true hN
  have hrr := Nat.le_of_ble_eq_true hr
  have hk1' := Nat.le_of_ble_eq_true hk1
  have hn1' := Nat.le_of_ble_eq_true hn1
  subst hst
  refine g_afterX (vx_runV (As := As) (rest := rest) (b := w_r w q0) (C := y.cls) (Ts := wAll) (cc := cc) (nL := nL) ⟨hx, hb, hml, hown, hts⟩ hM (cwV nA hts ?_ rfl rfl rfl ⟨rfl, hY.2.2⟩ ⟨?_, ?_⟩) ⟨wI_blind, va_recv hK hP K.2.1 (wlen_ble hq K.1), fun U hU hW => ⟨rfl, wI_go hK hB hkw hP hS hU hW⟩⟩ rfl hA hl.1 rfl (lv_room (by have := rest_sum rest; omega)) hd ⟨by rw [hR, hk]; exact hk1', by rw [hR, hn]; exact hn1'⟩) hk hn hl hS kI kT
  · intro x hx
    have hg := good_call hY
    rcases List.mem_append.mp hx with h | h
    · have e4 : x ∈ wAll := by
        rcases List.mem_cons.mp h with rfl | h
        · exact hlk
        rcases List.mem_cons.mp h with rfl | h
        · exact hin
        rcases List.mem_cons.mp h with rfl | h
        · exact hsel
        rcases List.mem_cons.mp h with rfl | h
        · exact hY.2.1
        · cases h
      exact ⟨e4, good_of_word (wAll_good e4)⟩
    · exact hg x h
  · rw [hR]
    exact hNN
  · rw [hR]
    show 8 + (maxL + 11) + 40 * n2 ≤ 40 * N
    omega
/-- not caught here -/
theorem g_prop (C : gC w p s m args c cc nL own) {mc ms e0 : Nat} {o : oT} (hx : ∀ x ∈ c.exceptionTable.toList, False) (hlk : meth.locks = false) (hk : Nat.ble k0 mc = true) (hn : Nat.ble n0 ms = true) (ho : o = .inr (e0, d)) : gT w p l e R s m args below meth c nL k0 n0 (gEX w below args s mc ms o) d e0 lv pc st :=
  fun H locs ls q ce hl hP hS hce hv hcl => vx_out (fun x h => (hx x h).elim) hlk hce hv hcl (fun t ht _ => ⟨e0, d, ho, rfl, by rw [ht]; exact hP, hS.F ht⟩) hS.2.2 (Nat.le_of_ble_eq_true hk) (Nat.le_of_ble_eq_true hn)
theorem g_iretX (C : gC w p s m args c cc nL own) {ty : FieldType} {v : Int32} {mc ms : Nat} {o : oT} (hr : meth.sig.returnType = some ty) (hlk : meth.locks = false) (hn : narrow ty (.int v) = .int v) (hk : Nat.ble k0 mc = true) (hn0 : Nat.ble n0 ms = true) (ho : o = .inl (some (.int v), d)) (hd : decode cc pc = .ok (.ireturn, 1)) : gG w p l e R s m args below meth c nL k0 n0 (gEX w below args s mc ms o) d lv pc [.int v] :=
  fun H locs ls hl hP hS => vx_ret (W.widen (k := mc) (n := ms) (Nat.le_of_ble_eq_true hk) (Nat.le_of_ble_eq_true hn0) (W.zret C.1 C.2.1 hr hn (fun t ht hW => ⟨_, d, ho, rfl, by rw [ht]; exact hP, hS.F ht⟩) hS.2.2 hd hlk))
theorem g_vretX (C : gC w p s m args c cc nL own) {mc ms : Nat} {o : oT} (hr : meth.sig.returnType = none) (hlk : meth.locks = false) (hk : Nat.ble k0 mc = true) (hn0 : Nat.ble n0 ms = true) (ho : o = .inl (none, d)) (hd : decode cc pc = .ok (.return_, 1)) : gG w p l e R s m args below meth c nL k0 n0 (gEX w below args s mc ms o) d lv pc [] :=
  fun H locs ls hl hP hS => vx_ret (W.widen (k := mc) (n := ms) (Nat.le_of_ble_eq_true hk) (Nat.le_of_ble_eq_true hn0) (W.vret C.1 C.2.1 hr (fun t ht hW => ⟨_, d, ho, rfl, by rw [ht]; exact hP, hS.F ht⟩) hS.2.2 hd hlk))
theorem g_throwS (C : gC w p s m args c cc nL own) {ik ic is i mc ms e0 N mcR msR : Nat} {o : oT} (hl9 : l.stackTraces = false) (TH : thOK own ik ic e0) (hi : i < 54) (h1 : (kq i).1 = own) (h2 : (kq i).2.1 = is) (hx : ∀ x ∈ c.exceptionTable.toList, False) (hlk : meth.locks = false) (hR : R = gRmX N mcR msR) (hN : Nat.ble 6 N = true)
    (d0 : decode cc pc = .ok (.new ik, 3)) (d3 : decode cc (pc + 3) = .ok (.dup, 1)) (d4 : decode cc (pc + 4) = .ok (.ldc is, 2)) (d6 : decode cc (pc + 6) = .ok (.invokespecial ic, 3)) (d9 : decode cc (pc + 9) = .ok (.athrow, 1))
    (hr : Nat.ble st.length 4 = true) (hk : Nat.ble (k0 + 1) mc = true) (hn : Nat.ble (n0 + 6) ms = true) (hmc : Nat.ble mc mcR = true) (hms : Nat.ble ms msR = true) (ho : o = .inr (e0, d)) : gG w p l e R s m args below meth c nL k0 n0 (gEX w below args s mc ms o) d lv pc st := by
  intro H locs ls hl hP hS
  have hR1 := ks_ref C hi
  rw [h1, h2] at hR1
  have hNN := Nat.le_of_ble_eq_true hN
  have hrr := Nat.le_of_ble_eq_true hr
  have hk' := Nat.le_of_ble_eq_true hk
  have hn' := Nat.le_of_ble_eq_true hn
  have hmc' := Nat.le_of_ble_eq_true hmc
  have hms' := Nat.le_of_ble_eq_true hms
  have hsum := rest_sum st
  obtain ⟨t1, t2, t3, t4⟩ := TH
  have hsz : ls.size = c.maxLocals := hl.1.trans C.2.2.1.symm
  refine vx_throwS (names := ["java/lang/RuntimeException", "java/lang/Exception"]) C.1 C.2.1 hl9 C.2.2.2.1 t1 (by decide) (C.2.2.2.2.1 _ t2) (C.2.2.2.2.1 _ t3) hR1 (fun x hx9 => ?_) (fun x hx9 => ?_) (k_unas C) (k_supp C) hS hsz d0 d3 d4 d6 d9 (fun x h => (hx x h).elim) ?_ ?_ ?_ ?_ hlk (fun t ha hz hq => ⟨e0, d, ho, rfl, fun k q hkq => (hP k q hkq).kept (hq _ (hP k q hkq).lt), Nat.le_trans hS.1 hz, fun q h1 h2 => (hq q (Nat.lt_of_lt_of_le h1 hS.1)).trans (hS.2.1 q h1 h2)⟩) hS.2.2 hk' hn'
  · obtain ⟨g1, g2, -⟩ := t4 x hx9
    rcases g2 with g2 | g2
    · exact C.2.2.2.2.1 _ (wAll_in g1 g2)
    · exact va_Nw.use (odd_on g2) (k_odd C (List.mem_filter.mpr ⟨g1, g2⟩))
  · rcases List.mem_cons.mp hx9 with rfl | hx9
    · unfold vx_ot
      rw [wAll_good t2, Bool.or_true]
    rcases List.mem_cons.mp hx9 with rfl | hx9
    · unfold vx_ot
      rw [wAll_good t3, Bool.or_true]
    exact (t4 x hx9).2.2
  · rw [hR]
    show 2 + 3 < N
    omega
  · rw [hR]
    show _ + (13 * 3 + 43) ≤ 40 * N
    omega
  · rw [hR]
    show _ ≤ mcR
    omega
  · rw [hR]
    show _ ≤ msR
    omega
theorem g_throwSW (C : gC w p s m args c cc nL own) {ik ic is i mc ms e0 N mcR msR : Nat} {o : oT} (hl9 : l.stackTraces = false) (TH : thOK own ik ic e0) (hi : i < 54) (h1 : (kq i).1 = own) (h2 : (kq i).2.1 = is) (hx : ∀ x ∈ c.exceptionTable.toList, False) (hlk : meth.locks = false) (hR : R = gRmX N mcR msR) (hN : Nat.ble 6 N = true)
    (d0 : decode cc pc = .ok (.new ik, 3)) (d3 : decode cc (pc + 3) = .ok (.dup, 1)) (d4 : decode cc (pc + 4) = .ok (.ldc_w is, 3)) (d6 : decode cc (pc + 7) = .ok (.invokespecial ic, 3)) (d9 : decode cc (pc + 10) = .ok (.athrow, 1))
    (hr : Nat.ble st.length 4 = true) (hk : Nat.ble (k0 + 1) mc = true) (hn : Nat.ble (n0 + 6) ms = true) (hmc : Nat.ble mc mcR = true) (hms : Nat.ble ms msR = true) (ho : o = .inr (e0, d)) : gG w p l e R s m args below meth c nL k0 n0 (gEX w below args s mc ms o) d lv pc st := by
  intro H locs ls hl hP hS
  have hR1 := ks_ref C hi
  rw [h1, h2] at hR1
  have hNN := Nat.le_of_ble_eq_true hN
  have hrr := Nat.le_of_ble_eq_true hr
  have hk' := Nat.le_of_ble_eq_true hk
  have hn' := Nat.le_of_ble_eq_true hn
  have hmc' := Nat.le_of_ble_eq_true hmc
  have hms' := Nat.le_of_ble_eq_true hms
  have hsum := rest_sum st
  obtain ⟨t1, t2, t3, t4⟩ := TH
  have hsz : ls.size = c.maxLocals := hl.1.trans C.2.2.1.symm
  refine vx_throwSW (names := ["java/lang/RuntimeException", "java/lang/Exception"]) C.1 C.2.1 hl9 C.2.2.2.1 t1 (by decide) (C.2.2.2.2.1 _ t2) (C.2.2.2.2.1 _ t3) hR1 (fun x hx9 => ?_) (fun x hx9 => ?_) (k_unas C) (k_supp C) hS hsz d0 d3 d4 d6 d9 (fun x h => (hx x h).elim) ?_ ?_ ?_ ?_ hlk (fun t ha hz hq => ⟨e0, d, ho, rfl, fun k q hkq => (hP k q hkq).kept (hq _ (hP k q hkq).lt), Nat.le_trans hS.1 hz, fun q h1 h2 => (hq q (Nat.lt_of_lt_of_le h1 hS.1)).trans (hS.2.1 q h1 h2)⟩) hS.2.2 hk' hn'
  · obtain ⟨g1, g2, -⟩ := t4 x hx9
    rcases g2 with g2 | g2
    · exact C.2.2.2.2.1 _ (wAll_in g1 g2)
    · exact va_Nw.use (odd_on g2) (k_odd C (List.mem_filter.mpr ⟨g1, g2⟩))
  · rcases List.mem_cons.mp hx9 with rfl | hx9
    · unfold vx_ot
      rw [wAll_good t2, Bool.or_true]
    rcases List.mem_cons.mp hx9 with rfl | hx9
    · unfold vx_ot
      rw [wAll_good t3, Bool.or_true]
    exact (t4 x hx9).2.2
  · rw [hR]
    show 2 + 3 < N
    omega
  · rw [hR]
    show _ + (13 * 3 + 43) ≤ 40 * N
    omega
  · rw [hR]
    show _ ≤ mcR
    omega
  · rw [hR]
    show _ ≤ msR
    omega
end GX
theorem gMX_of {w : wT} {l : Launch} {y : MethodName} {cc : ByteArray} {maxL n mc ms : Nat} {ret : Option FieldType} {av : List Value} {d : Dt} {o : oT} (hpl : plainName y.cls = true) (lv0 : List (Nat × Value)) (hlv : lv_args 0 av = lv0) (hlen : Nat.ble (lg_sl av).length maxL = true)
    (body : ∀ (p : Program) (e : Env) (R : Room) (s : State) (m : MethodId) (args : Array Value) (below : List Frame) (meth : Method) (c : Code), gC w p s m args c cc maxL y.cls → R = gRmX n mc ms → meth.sig.returnType = ret → meth.locks = false → (∀ x ∈ c.exceptionTable.toList, False) → gG w p l e R s m args below meth c maxL 0 0 (gEX w below args s mc ms o) d lv0 0 []) (hO : okW w) : gMX w l y cc maxL ret n mc ms av d o := by
  refine vx_ofW (cc := cc) (maxL := maxL) (ret := ret) hpl rfl ?_
  intro p e s m args below meth c s₁ B hml hx hv
  obtain ⟨rfl, hP, hK, hB, hkw⟩ := hv
  have hts := atoms_spec (ws := Cond.code y cc maxL ret :: wAll) B.pre
  have hown : s.vm.findClass y.cls = some m.cls := findClass_of_methodNamed B.named
  have hl := lv_entry av (n := maxL) (Nat.le_of_ble_eq_true hlen)
  rw [lg_entry_eq]
  rw [hlv] at hl
  exact body p e _ s m _ below meth c ⟨B.exec, B.bytes, hml, hown, fun x hx => hts x (List.mem_cons_of_mem _ hx), hK, hO, hB, hkw⟩ rfl B.returns B.notSynchronized hx s.heap [] _ hl hP va_S.rf
def oW (z : (Int32 × Dt) ⊕ (Nat × Dt)) : oT := match z with
  | .inl (r, d) => .inl (some (.int r), d)
  | .inr q => .inr q
theorem oW_i {r : Int32} {d : Dt} {z : (Int32 × Dt) ⊕ (Nat × Dt)} (h : some (.inl (r, d)) = some z) : oW z = .inl (some (.int r), d) := by cases h; rfl
theorem oW_t {e : Nat} {d : Dt} {z : (Int32 × Dt) ⊕ (Nat × Dt)} (h : some (.inr (e, d)) = some z) : oW z = .inr (e, d) := by cases h; rfl
def ocW {X : Type} (a : Option ((Int32 × Dt) ⊕ (Nat × Dt))) (kI : Int32 → Dt → Option X) (kT : Nat → Dt → Option X) : Option X := match a with
  | none => none
  | some (.inl r) => kI r.1 r.2
  | some (.inr q) => kT q.1 q.2
theorem ocW_1 {X : Type} {a : Option ((Int32 × Dt) ⊕ (Nat × Dt))} {kI : Int32 → Dt → Option X} {kT : Nat → Dt → Option X} {y : X} (h : ocW a kI kT = some y) : ∃ z, a = some z ∧ ocW (some z) kI kT = some y := by
  cases a with
  | none => cases h
  | some z => exact ⟨z, rfl, h⟩
theorem ocW_i {X : Type} {r : Int32} {d : Dt} {kI : Int32 → Dt → Option X} {kT : Nat → Dt → Option X} {y : X} (h : ocW (some (.inl (r, d))) kI kT = some y) : kI r d = some y := h
theorem ocW_t {X : Type} {e : Nat} {d : Dt} {kI : Int32 → Dt → Option X} {kT : Nat → Dt → Option X} {y : X} (h : ocW (some (.inr (e, d))) kI kT = some y) : kT e d = some y := h
theorem g_callVW {w : wT} {p : Program} {l : Launch} {e : Env} {R : Room} {s : State} {m : MethodId} {args : Array Value} {below : List Frame} {meth : Method} {c : Code} {cc : ByteArray} {nL k0 n0 : Nat} {own : String} {Q : State → Prop} {d : Dt} {lv : List (Nat × Value)} {pc : Nat} {st : List Value} (C : gC w p s m args c cc nL own) {ix ci maxL nA n n2 N mcR msR mc2 ms2 : Nat} (k1 n1 : Nat) {y : MethodName} {bytes : ByteArray} {ret : Option FieldType} {As rest : List Value} {z : (Int32 × Dt) ⊕ (Nat × Dt)} (q0 : Nat) (hq : isC q0 ci n) (V : vOK own ix ci y bytes maxL ret nA) (hR : R = gRmX N mcR msR) (hN : Nat.ble (n2 + 1) N = true) (hM : gMX w l y bytes maxL ret n2 mc2 ms2 (.ref (w_r w q0) :: As) d (oW z)) (hA : As.length = nA) (hr : Nat.ble rest.length 4 = true) (hst : st = As.reverse ++ .ref (w_r w q0) :: rest) (hd : decode cc pc = .ok (.invokevirtual ix, 3)) (hk : k0 + mc2 = k1) (hn : n0 + ms2 = n1) (hk1 : Nat.ble k1 mcR = true) (hn1 : Nat.ble n1 msR = true) (kI : ∀ r d', z = .inl (r, d') → gG w p l e R s m args below meth c nL k1 n1 Q d' lv (pc + 3) (.int r :: rest)) (kT : ∀ e0 d', z = .inr (e0, d') → gT w p l e R s m args below meth c nL k1 n1 Q d' e0 lv pc rest) : gG w p l e R s m args below meth c nL k0 n0 Q d lv pc st :=
  g_callVX C k1 n1 q0 hq V hR hN hM hA hr hst hd hk hn hk1 hn1 (fun ov d' h => by
    rcases z with ⟨r, d1⟩ | ⟨e1, d1⟩
    · cases h; exact kI r _ rfl
    · cases h) (fun e0 d' h => by
    rcases z with ⟨r, d1⟩ | ⟨e1, d1⟩
    · cases h
    · cases h; exact kT _ _ rfl)
def oR (d : Dt) (z : Int32 ⊕ Nat) : oT := match z with
  | .inl r => .inl (some (.int r), d)
  | .inr e => .inr (e, d)
theorem oR_i {r : Int32} {d : Dt} {z : Int32 ⊕ Nat} (h : some (.inl r) = some z) : oR d z = .inl (some (.int r), d) := by cases h; rfl
theorem oR_t {e : Nat} {d : Dt} {z : Int32 ⊕ Nat} (h : some (.inr e) = some z) : oR d z = .inr (e, d) := by cases h; rfl
def ocR {X : Type} (a : Option (Int32 ⊕ Nat)) (kI : Int32 → Option X) (kT : Nat → Option X) : Option X := match a with
  | none => none
  | some (.inl r) => kI r
  | some (.inr q) => kT q
theorem ocR_1 {X : Type} {a : Option (Int32 ⊕ Nat)} {kI : Int32 → Option X} {kT : Nat → Option X} {y : X} (h : ocR a kI kT = some y) : ∃ z, a = some z ∧ ocR (some z) kI kT = some y := by
  cases a with
  | none => cases h
  | some z => exact ⟨z, rfl, h⟩
theorem ocR_i {X : Type} {r : Int32} {kI : Int32 → Option X} {kT : Nat → Option X} {y : X} (h : ocR (some (.inl r)) kI kT = some y) : kI r = some y := h
theorem ocR_t {X : Type} {e : Nat}  {kI : Int32 → Option X} {kT : Nat → Option X} {y : X} (h : ocR (some (.inr e)) kI kT = some y) : kT e = some y := h
theorem g_callVR {w : wT} {p : Program} {l : Launch} {e : Env} {R : Room} {s : State} {m : MethodId} {args : Array Value} {below : List Frame} {meth : Method} {c : Code} {cc : ByteArray} {nL k0 n0 : Nat} {own : String} {Q : State → Prop} {d : Dt} {lv : List (Nat × Value)} {pc : Nat} {st : List Value} (C : gC w p s m args c cc nL own) {ix ci maxL nA n n2 N mcR msR mc2 ms2 : Nat} (k1 n1 : Nat) {y : MethodName} {bytes : ByteArray} {ret : Option FieldType} {As rest : List Value} {z : Int32 ⊕ Nat} (q0 : Nat) (hq : isC q0 ci n) (V : vOK own ix ci y bytes maxL ret nA) (hR : R = gRmX N mcR msR) (hN : Nat.ble (n2 + 1) N = true) (hM : gMX w l y bytes maxL ret n2 mc2 ms2 (.ref (w_r w q0) :: As) d (oR d z)) (hA : As.length = nA) (hr : Nat.ble rest.length 4 = true) (hst : st = As.reverse ++ .ref (w_r w q0) :: rest) (hd : decode cc pc = .ok (.invokevirtual ix, 3)) (hk : k0 + mc2 = k1) (hn : n0 + ms2 = n1) (hk1 : Nat.ble k1 mcR = true) (hn1 : Nat.ble n1 msR = true) (kI : ∀ r, z = .inl r → gG w p l e R s m args below meth c nL k1 n1 Q d lv (pc + 3) (.int r :: rest)) (kT : ∀ e0, z = .inr e0 → gT w p l e R s m args below meth c nL k1 n1 Q d e0 lv pc rest) : gG w p l e R s m args below meth c nL k0 n0 Q d lv pc st :=
  g_callVX C k1 n1 q0 hq V hR hN hM hA hr hst hd hk hn hk1 hn1 (fun ov d' h => by
    rcases z with r | e1
    · cases h; exact kI r rfl
    · cases h) (fun e0 d' h => by
    rcases z with r | e1
    · cases h
    · cases h; exact kT _ rfl)
def oU (d : Dt) (z : Unit ⊕ Nat) : oT := match z with
  | .inl () => .inl (none, d)
  | .inr e => .inr (e, d)
theorem oU_i {d : Dt} {z : Unit ⊕ Nat} (h : some (.inl ()) = some z) : oU d z = .inl (none, d) := by cases h; rfl
theorem oU_t {e : Nat} {d : Dt} {z : Unit ⊕ Nat} (h : some (.inr e) = some z) : oU d z = .inr (e, d) := by cases h; rfl
def ocU {X : Type} (a : Option (Unit ⊕ Nat)) (kI : Option X) (kT : Nat → Option X) : Option X := match a with
  | none => none
  | some (.inl r) => kI
  | some (.inr q) => kT q
theorem ocU_1 {X : Type} {a : Option (Unit ⊕ Nat)} {kI : Option X} {kT : Nat → Option X} {y : X} (h : ocU a kI kT = some y) : ∃ z, a = some z ∧ ocU (some z) kI kT = some y := by
  cases a with
  | none => cases h
  | some z => exact ⟨z, rfl, h⟩
theorem ocU_i {X : Type}  {kI : Option X} {kT : Nat → Option X} {y : X} (h : ocU (some (.inl ())) kI kT = some y) : kI = some y := h
theorem ocU_t {X : Type} {e : Nat}  {kI : Option X} {kT : Nat → Option X} {y : X} (h : ocU (some (.inr e)) kI kT = some y) : kT e = some y := h
theorem g_callVU {w : wT} {p : Program} {l : Launch} {e : Env} {R : Room} {s : State} {m : MethodId} {args : Array Value} {below : List Frame} {meth : Method} {c : Code} {cc : ByteArray} {nL k0 n0 : Nat} {own : String} {Q : State → Prop} {d : Dt} {lv : List (Nat × Value)} {pc : Nat} {st : List Value} (C : gC w p s m args c cc nL own) {ix ci maxL nA n n2 N mcR msR mc2 ms2 : Nat} (k1 n1 : Nat) {y : MethodName} {bytes : ByteArray} {ret : Option FieldType} {As rest : List Value} {z : Unit ⊕ Nat} (q0 : Nat) (hq : isC q0 ci n) (V : vOK own ix ci y bytes maxL ret nA) (hR : R = gRmX N mcR msR) (hN : Nat.ble (n2 + 1) N = true) (hM : gMX w l y bytes maxL ret n2 mc2 ms2 (.ref (w_r w q0) :: As) d (oU d z)) (hA : As.length = nA) (hr : Nat.ble rest.length 4 = true) (hst : st = As.reverse ++ .ref (w_r w q0) :: rest) (hd : decode cc pc = .ok (.invokevirtual ix, 3)) (hk : k0 + mc2 = k1) (hn : n0 + ms2 = n1) (hk1 : Nat.ble k1 mcR = true) (hn1 : Nat.ble n1 msR = true) (kI : z = .inl () → gG w p l e R s m args below meth c nL k1 n1 Q d lv (pc + 3) rest) (kT : ∀ e0, z = .inr e0 → gT w p l e R s m args below meth c nL k1 n1 Q d e0 lv pc rest) : gG w p l e R s m args below meth c nL k0 n0 Q d lv pc st :=
  g_callVX C k1 n1 q0 hq V hR hN hM hA hr hst hd hk hn hk1 hn1 (fun ov d' h => by
    rcases z with r | e1
    · cases h; exact kI rfl
    · cases h) (fun e0 d' h => by
    rcases z with r | e1
    · cases h
    · cases h; exact kT _ rfl)
def oV (z : Dt ⊕ (Nat × Dt)) : oT := match z with
  | .inl d => .inl (none, d)
  | .inr q => .inr q
theorem oV_i {d : Dt} {z : Dt ⊕ (Nat × Dt)} (h : some (.inl d) = some z) : oV z = .inl (none, d) := by cases h; rfl
theorem oV_t {e : Nat} {d : Dt} {z : Dt ⊕ (Nat × Dt)} (h : some (.inr (e, d)) = some z) : oV z = .inr (e, d) := by cases h; rfl
def ocV {X : Type} (a : Option (Dt ⊕ (Nat × Dt))) (kI : Dt → Option X) (kT : Nat → Dt → Option X) : Option X := match a with
  | none => none
  | some (.inl r) => kI r
  | some (.inr q) => kT q.1 q.2
theorem ocV_1 {X : Type} {a : Option (Dt ⊕ (Nat × Dt))} {kI : Dt → Option X} {kT : Nat → Dt → Option X} {y : X} (h : ocV a kI kT = some y) : ∃ z, a = some z ∧ ocV (some z) kI kT = some y := by
  cases a with
  | none => cases h
  | some z => exact ⟨z, rfl, h⟩
theorem ocV_i {X : Type} {d : Dt} {kI : Dt → Option X} {kT : Nat → Dt → Option X} {y : X} (h : ocV (some (.inl d)) kI kT = some y) : kI d = some y := h
theorem ocV_t {X : Type} {e : Nat} {d : Dt} {kI : Dt → Option X} {kT : Nat → Dt → Option X} {y : X} (h : ocV (some (.inr (e, d))) kI kT = some y) : kT e d = some y := h
theorem g_callVV {w : wT} {p : Program} {l : Launch} {e : Env} {R : Room} {s : State} {m : MethodId} {args : Array Value} {below : List Frame} {meth : Method} {c : Code} {cc : ByteArray} {nL k0 n0 : Nat} {own : String} {Q : State → Prop} {d : Dt} {lv : List (Nat × Value)} {pc : Nat} {st : List Value} (C : gC w p s m args c cc nL own) {ix ci maxL nA n n2 N mcR msR mc2 ms2 : Nat} (k1 n1 : Nat) {y : MethodName} {bytes : ByteArray} {ret : Option FieldType} {As rest : List Value} {z : Dt ⊕ (Nat × Dt)} (q0 : Nat) (hq : isC q0 ci n) (V : vOK own ix ci y bytes maxL ret nA) (hR : R = gRmX N mcR msR) (hN : Nat.ble (n2 + 1) N = true) (hM : gMX w l y bytes maxL ret n2 mc2 ms2 (.ref (w_r w q0) :: As) d (oV z)) (hA : As.length = nA) (hr : Nat.ble rest.length 4 = true) (hst : st = As.reverse ++ .ref (w_r w q0) :: rest) (hd : decode cc pc = .ok (.invokevirtual ix, 3)) (hk : k0 + mc2 = k1) (hn : n0 + ms2 = n1) (hk1 : Nat.ble k1 mcR = true) (hn1 : Nat.ble n1 msR = true) (kI : ∀ d', z = .inl d' → gG w p l e R s m args below meth c nL k1 n1 Q d' lv (pc + 3) rest) (kT : ∀ e0 d', z = .inr (e0, d') → gT w p l e R s m args below meth c nL k1 n1 Q d' e0 lv pc rest) : gG w p l e R s m args below meth c nL k0 n0 Q d lv pc st :=
  g_callVX C k1 n1 q0 hq V hR hN hM hA hr hst hd hk hn hk1 hn1 (fun ov d' h => by
    rcases z with d1 | ⟨e1, d1⟩
    · cases h; exact kI _ rfl
    · cases h) (fun e0 d' h => by
    rcases z with d1 | ⟨e1, d1⟩
    · cases h
    · cases h; exact kT _ _ rfl)
section GW
variable {w : wT} {p : Program} {l : Launch} {e : Env} {R : Room} {s : State} {m : MethodId} {args : Array Value} {below : List Frame} {meth : Method} {c : Code} {cc : ByteArray} {nL k0 n0 : Nat} {own : String} {Q : State → Prop} {d : Dt} {lv : List (Nat × Value)} {pc : Nat} {st : List Value}
theorem g_wid (k1 n1 : Nat) (hk : Nat.ble k0 k1 = true) (hn : Nat.ble n0 n1 = true) (k : gG w p l e R s m args below meth c nL k1 n1 Q d lv pc st) : gG w p l e R s m args below meth c nL k0 n0 Q d lv pc st :=
  fun H locs ls hl hP hS => W.widen (Nat.le_of_ble_eq_true hk) (Nat.le_of_ble_eq_true hn) (k H locs ls hl hP hS)
theorem g_nm {a t : Int32} (ht : t = a) (k : gG w p l e R s m args below meth c nL k0 n0 Q d lv pc (.int t :: st)) : gG w p l e R s m args below meth c nL k0 n0 Q d lv pc (.int a :: st) := ht ▸ k
def pOKk (own : String) (ix ci kf : Nat) (fty : FieldType) : Prop := ∃ (Cn : String) (T : u_T) (ty : Nat → FieldType) (N : Nat), cOK ci Cn T ty N ∧ kf < N ∧ Cond.fieldLink own ix (T kf).1 (T kf).2.1 (T kf).2.2.1 ∈ wAll ∧ (T kf).2.2.2 = false ∧ parseFieldDescriptor (T kf).2.2.1 = some fty ∧ (∀ rf (kd : Int32 → Value) f v, fldsW ci rf kd (upd f kf v) = (fldsW ci rf kd f).set kf (kd v)) ∧ ∀ rf kd f, kf < (fldsW ci rf kd f).length
theorem g_putk (C : gC w p s m args c cc nL own) {ix ci kf n : Nat} {fty : FieldType} {v : Int32} (q0 : Nat) (hq : isC q0 ci n) (F : pOKk own ix ci kf fty) (hn : narrow fty (.ref (w_k w (200 + v.toNatClampNeg))) = .ref (w_k w (200 + v.toNatClampNeg))) (hf : fits fty (.ref (w_k w (200 + v.toNatClampNeg))) = true) (hd : decode cc pc = .ok (.putfield ix, 3)) (k : gG w p l e R s m args below meth c nL k0 n0 Q (wr d q0 kf v) lv (pc + 3) st) : gG w p l e R s m args below meth c nL k0 n0 Q d lv pc (.ref (w_k w (200 + v.toNatClampNeg)) :: .ref (w_r w q0) :: st) := by
  intro H locs ls hl hP hS
  obtain ⟨Cn, T, ty, N, K, hk, hlk, hfin, hpd, hset, hlen⟩ := F
  obtain ⟨hx, hb, -, hown, hts, hK, hO, -, -⟩ := C
  refine va_put hx hb hts K.2.2.2.1 ty K.2.2.2.2.1 K.2.2.2.2.2 hown hK hP (dW hO) hS q0 (wlen_ble hq K.1) K.2.1 kf hk (hts _ hlk) (fun _ h => h) hfin hpd hn hf (hlen _ _ _) hd (fun H1 locs1 hP1 _ hS1 => k H1 locs1 ls hl ?_ hS1)
  rwa [wsW_putf hq K.1 (u := .ref (w_k w (200 + v.toNatClampNeg))) (hset _ _ _ _)] at hP1
end GW
def bnd {A X : Type} (a : A) (k : A → Option X) : Option X := k a
theorem bnd_1 {A X : Type} {a : A} {k : A → Option X} {y : X} (h : bnd a k = some y) : ∃ t, t = a ∧ k t = some y := ⟨a, rfl, h⟩
theorem bool01 {v : Int32} (h : v &&& 1 = v) : v = 0 ∨ v = 1 := by
  have h1 : (v &&& 1).toBitVec.toNat = v.toBitVec.toNat := by rw [h]
  have h2 : (v &&& 1).toBitVec = v.toBitVec &&& 1#32 := rfl
  rw [h2, BitVec.toNat_and] at h1
  have h3 : (1#32 : BitVec 32).toNat = 1 := by decide
  rw [h3, Nat.and_one_is_mod] at h1
  have h4 : v.toBitVec.toNat = 0 ∨ v.toBitVec.toNat = 1 := by omega
  rcases h4 with h4 | h4
  · exact Or.inl (Int32.toBitVec_inj.mp (BitVec.eq_of_toNat_eq (by rw [h4]; decide)))
  · exact Or.inr (Int32.toBitVec_inj.mp (BitVec.eq_of_toNat_eq (by rw [h4]; decide)))
theorem nar_01 {v : Int32} (h : nar .boolean v = true) : v = 0 ∨ v = 1 := by
  have h1 := nar_n h
  have h2 : Value.int (v &&& 1) = .int v := h1
  injection h2 with h3
  exact bool01 h3
theorem nar_f {v : Int32} (h : nar .boolean v = true) : fits .boolean (.int v) = true := by
  rcases nar_01 h with rfl | rfl <;> rfl
def mxI (x y : Int32) : Int32 := if x < y then y else x
def mnI (x y : Int32) : Int32 := if y < x then y else x
section GMM
variable {w : wT} {p : Program} {l : Launch} {e : Env} {R : Room} {s : State} {m : MethodId} {args : Array Value} {below : List Frame} {meth : Method} {c : Code} {cc : ByteArray} {nL k0 n0 : Nat} {own : String} {Q : State → Prop} {d : Dt} {lv : List (Nat × Value)} {pc : Nat} {st : List Value}
theorem g_ldcw (C : gC w p s m args c cc nL own) {ix : Nat} {v : Int32} (hk : Cond.constant own ix v ∈ wAll) (hd : decode cc pc = .ok (.ldc_w ix, 3)) (k : gG w p l e R s m args below meth c nL k0 n0 Q d lv (pc + 3) (.int v :: st)) : gG w p l e R s m args below meth c nL k0 n0 Q d lv pc st :=
  fun H locs ls hl hP hS => lv_ldcw C.1 C.2.1 C.2.2.2.1 (C.2.2.2.2.1 _ hk) hd (k H locs ls hl hP hS)
theorem g_mmax (C : gC w p s m args c cc nL own) {ix N mcR msR : Nat} {x y : Int32} (hk : Cond.methodLink own ix Lib.Math.max.name ∈ wAll) (hs : Cond.static Lib.Math.max.name ∈ wAll) (hi : Cond.initialized "java/lang/Math" ∈ wAll) (hc : Cond.code Lib.Math.max.name Lib.Math.max.code 2 (some .int) ∈ wAll) (hR : R = gRmX N mcR msR) (hN : Nat.ble 1 N = true) (hr : Nat.ble st.length 4 = true) (hd : decode cc pc = .ok (.invokestatic ix, 3)) (hk0 : Nat.ble k0 mcR = true) (hn0 : Nat.ble n0 msR = true) (k : gG w p l e R s m args below meth c nL k0 n0 Q d lv (pc + 3) (.int (mxI x y) :: st)) : gG w p l e R s m args below meth c nL k0 n0 Q d lv pc (.int y :: .int x :: st) := by
  intro H locs ls hl hP hS
  have hNN := Nat.le_of_ble_eq_true hN
  have hrr := Nat.le_of_ble_eq_true hr
  have hsum := rest_sum st
  exact va_mmax C.1 C.2.1 (C.2.2.1.trans hl.1.symm) C.2.2.2.1 (C.2.2.2.2.1 _ hk) (C.2.2.2.2.1 _ hs) (C.2.2.2.2.1 _ hi) (C.2.2.2.2.1 _ hc) (by rw [hR]; exact hNN) (by rw [hR]; show _ ≤ 40 * N; omega) (by rw [hR]; exact Nat.le_of_ble_eq_true hk0) (by rw [hR]; exact Nat.le_of_ble_eq_true hn0) hd (k H locs ls hl hP hS)
theorem g_mmin (C : gC w p s m args c cc nL own) {ix N mcR msR : Nat} {x y : Int32} (hk : Cond.methodLink own ix Lib.Math.min.name ∈ wAll) (hs : Cond.static Lib.Math.min.name ∈ wAll) (hi : Cond.initialized "java/lang/Math" ∈ wAll) (hc : Cond.code Lib.Math.min.name Lib.Math.min.code 2 (some .int) ∈ wAll) (hR : R = gRmX N mcR msR) (hN : Nat.ble 1 N = true) (hr : Nat.ble st.length 4 = true) (hd : decode cc pc = .ok (.invokestatic ix, 3)) (hk0 : Nat.ble k0 mcR = true) (hn0 : Nat.ble n0 msR = true) (k : gG w p l e R s m args below meth c nL k0 n0 Q d lv (pc + 3) (.int (mnI x y) :: st)) : gG w p l e R s m args below meth c nL k0 n0 Q d lv pc (.int y :: .int x :: st) := by
  intro H locs ls hl hP hS
  have hNN := Nat.le_of_ble_eq_true hN
  have hrr := Nat.le_of_ble_eq_true hr
  have hsum := rest_sum st
  exact va_mmin C.1 C.2.1 (C.2.2.1.trans hl.1.symm) C.2.2.2.1 (C.2.2.2.2.1 _ hk) (C.2.2.2.2.1 _ hs) (C.2.2.2.2.1 _ hi) (C.2.2.2.2.1 _ hc) (by rw [hR]; exact hNN) (by rw [hR]; show _ ≤ 40 * N; omega) (by rw [hR]; exact Nat.le_of_ble_eq_true hk0) (by rw [hR]; exact Nat.le_of_ble_eq_true hn0) hd (k H locs ls hl hP hS)
end GMM
