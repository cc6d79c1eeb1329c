/-! 05z: rows for the law's own methods: handlers, longs, the script -/
theorem W_room {p : Program} {l : Launch} {e : Env} {R R' : Room} {s : State} {m : MethodId} {args : Array Value} {below : List Frame} {meth : Method} {c : Code} {H : Heap} {locs : List Loc} {cells slots : Nat} {Q : State → Prop} {g : JFrame} (h1 : R'.frames ≤ R.frames) (h2 : R'.locals ≤ R.locals) (h3 : R'.cells ≤ R.cells) (h4 : R'.slots ≤ R.slots) (k : W p l e R' s m args below meth c H locs cells slots Q g) : W p l e R s m args below meth c H locs cells slots Q g := by
  intro T hT X
  refine k T hT { X with room := ?_ }
  have h := X.room
  simp only [State.hasRoom, Bool.and_eq_true, decide_eq_true_eq] at h ⊢
  obtain ⟨⟨⟨⟨g1, g2, g3, g4, g5, g6⟩, g7⟩, g8⟩, g9⟩ := h
  exact ⟨⟨⟨⟨by omega, by omega, by omega, by omega, by omega, g6⟩, by omega⟩, by omega⟩, g9⟩
def gMW (w : wT) (l : Launch) (y : MethodName) (cc : ByteArray) (maxL : Nat) (ret : Option FieldType) (hh : List (Nat × Nat × Nat × Nat)) (n mc ms : Nat) (av : List Value) (d d' : Dt) (ov : Option Value) : Prop :=
  Met l y (Cond.codeWith y cc maxL ret hh :: wAll) (gRmX n mc ms) (va_Pc av (wI w d)) (gQ w d' ov) mc ms (A_W w)
def gEW (w : wT) (below : List Frame) (args : Array Value) (s : State) (mc ms : Nat) (d' : Dt) (ov : Option Value) : State → Prop := MQ below (gQ w d' ov) args s mc ms (A_W w)
/-- what the tables say of a method with handlers -/
def hOK (own : String) (ix : Nat) (y : MethodName) (cc : ByteArray) (maxL : Nat) (ret : Option FieldType) (hh : List (Nat × Nat × Nat × Nat)) (nA : Nat) : Prop :=
  Cond.codeWith y cc maxL ret hh ∈ wAll ∧ Cond.initialized y.cls ∈ wAll ∧ (y.cls ≠ "java/lang/invoke/MethodHandle" ∧ y.cls ≠ "java/lang/invoke/VarHandle" ∧ (parseMethodDescriptor y.desc).map (fun d => d.parameters.length) = some nA) ∧ maxL ≤ 21 ∧ Cond.methodLink own ix y ∈ wAll ∧ Cond.static y ∈ wAll
section GZ
variable {w : wT} {p : Program} {l : Launch} {e : Env} {R : Room} {s : State} {m : MethodId} {args : Array Value} {below : List Frame} {meth : Method} {c : Code} {cc : ByteArray} {nL k0 n0 : Nat} {own : String} {Q : State → Prop} {d : Dt} {lv : List (Nat × Value)} {pc : Nat} {st : List Value}
theorem g_iretW (C : gC w p s m args c cc nL own) {ty : FieldType} {v : Int32} {mc ms : Nat} {d' : Dt} {ov : Option Value} (hr : meth.sig.returnType = some ty) (hlk : meth.locks = false) (hn : narrow ty (.int v) = .int v) (hk : Nat.ble k0 mc = true) (hn0 : Nat.ble n0 ms = true) (he : d = d') (hv : some (.int v) = ov) (hd : decode cc pc = .ok (.ireturn, 1)) : gG w p l e R s m args below meth c nL k0 n0 (gEW w below args s mc ms d' ov) d lv pc [.int v] := by
  subst he
  subst hv
  exact fun H locs ls hl hP hS => W.widen (k := mc) (n := ms) (Nat.le_of_ble_eq_true hk) (Nat.le_of_ble_eq_true hn0) (W.zret C.1 C.2.1 hr hn (fun t ht hW => ⟨rfl, by rw [ht]; exact hP, hS.F ht⟩) hS.2.2 hd hlk)
theorem g_i2l (C : gC w p s m args c cc nL own) {x : Int32} (hd : decode cc pc = .ok (.i2l, 1)) (k : gG w p l e R s m args below meth c nL k0 n0 Q d lv (pc + 1) (.long x.toInt64 :: st)) : gG w p l e R s m args below meth c nL k0 n0 Q d lv pc (.int x :: st) :=
  fun H locs ls hl hP hS => lv_i2l C.1 C.2.1 hd rfl (k H locs ls hl hP hS)
theorem g_lconst (C : gC w p s m args c cc nL own) {n : Fin 2} {v : Int32} (hd : decode cc pc = .ok (.lconst n, 1)) (hv : Int64.ofNat (n : Nat) = v.toInt64) (k : gG w p l e R s m args below meth c nL k0 n0 Q d lv (pc + 1) (.long v.toInt64 :: st)) : gG w p l e R s m args below meth c nL k0 n0 Q d lv pc st :=
  fun H locs ls hl hP hS => lv_lconst C.1 C.2.1 hd hv (k H locs ls hl hP hS)
theorem updL_eq (f : Nat → Int32) (j : Nat) (x : Int32) : vp_updL (fun i => (f i).toInt64) j x.toInt64 = fun i => (upd f j x i).toInt64 := by
  funext i
  unfold vp_updL upd
  by_cases h : i = j
  · rw [if_pos h, if_pos h]
  · rw [if_neg h, if_neg h]
theorem g_last (C : gC w p s m args c cc nL own) {n : Nat} {i x : Int32} (q0 : Nat) (hq : isC q0 25 n) (hi : inb i n = true) (j : Nat) (hj : i.toNatClampNeg = j) (hd : decode cc pc = .ok (.lastore, 1)) (k : gG w p l e R s m args below meth c nL k0 n0 Q (wr d q0 j x) lv (pc + 1) st) : gG w p l e R s m args below meth c nL k0 n0 Q d lv pc (.long x.toInt64 :: .int i :: .ref (w_r w q0) :: st) :=
  fun H locs ls hl hP hS => va_last C.1 C.2.1 C.2.2.2.2.2.1 hP (dW C.2.2.2.2.2.2.1) hS q0 5 (wsW_row hq rfl) rfl (inb_in hi) hd (fun H1 locs1 hP1 _ hS1 => k H1 locs1 ls hl (by
    rw [hj, updL_eq] at hP1
    have e2 : (wsW w d).set q0 (w_r w q0, .inl (w_c w 25, n, .inr (.inl fun i => (upd (d q0) j x i).toInt64))) = wsW w (wr d q0 j x) := by
      refine wsW_put hq ?_
      rfl
    rwa [e2] at hP1) hS1)
theorem g_lald (C : gC w p s m args c cc nL own) {n : Nat} {i : Int32} (q0 : Nat) (hq : isC q0 25 n) (hi : inb i n = true) (j : Nat) (hj : i.toNatClampNeg = j) (hd : decode cc pc = .ok (.laload, 1)) (k : gG w p l e R s m args below meth c nL k0 n0 Q d lv (pc + 1) (.long (d q0 j).toInt64 :: st)) : gG w p l e R s m args below meth c nL k0 n0 Q d lv pc (.int i :: .ref (w_r w q0) :: st) :=
  fun H locs ls hl hP hS => va_lald C.1 C.2.1 C.2.2.2.2.2.1 hP q0 5 (wsW_row hq rfl) rfl (inb_in hi) hd (by rw [hj]; exact k H locs ls hl hP hS)
theorem toInt64_inj {x y : Int32} (h : x.toInt64 = y.toInt64) : x = y := by
  have h1 : x.toInt64.toInt = y.toInt64.toInt := by rw [h]
  rw [Int32.toInt_toInt64, Int32.toInt_toInt64] at h1
  exact Int32.toInt_inj.mp h1
/-- two longs that come from ints are compared, and the answer is asked at once -/
theorem g_lcmpeq (C : gC w p s m args c cc nL own) {x y : Int32} {off : Int} {tgt : Nat} (hd : decode cc pc = .ok (.lcmp, 1)) (hd2 : decode cc (pc + 1) = .ok (.ifCond .eq off, 3)) (ht : ((pc + 1 : Nat) : Int) + off = (tgt : Int)) (kt : x = y → gG w p l e R s m args below meth c nL k0 n0 Q d lv tgt st) (kf : ¬ x = y → gG w p l e R s m args below meth c nL k0 n0 Q d lv (pc + 1 + 3) st) : gG w p l e R s m args below meth c nL k0 n0 Q d lv pc (.long y.toInt64 :: .long x.toInt64 :: st) := by
  have e1 : lg_cmp x.toInt64 y.toInt64 = 0 ↔ x = y := by
    unfold lg_cmp
    by_cases h1 : y.toInt64 < x.toInt64
    · rw [if_pos h1]
      refine ⟨fun h => absurd h (by decide), fun h => ?_⟩
      subst h
      exact absurd h1 Int64.lt_irrefl
    · rw [if_neg h1]
      by_cases h2 : x.toInt64 = y.toInt64
      · rw [if_pos h2]
        exact ⟨fun _ => toInt64_inj h2, fun _ => rfl⟩
      · rw [if_neg h2]
        refine ⟨fun h => absurd h (by decide), fun h => ?_⟩
        subst h
        exact absurd rfl h2
  refine fun H locs ls hl hP hS => W.lcmp C.1 C.2.1 hd (?_ : _)
  exact g_if_eq C (pc := pc + 1) hd2 ht (fun q => kt (e1.mp q)) (fun q => kf (fun h => q (e1.mpr h))) H locs ls hl hP hS
/-- a handler of the method takes what was thrown -/
theorem g_catch (C : gC w p s m args c cc nL own) {hh : List (Nat × Nat × Nat × Nat)} (htab : c.exceptionTable.toList = tableOf hh) {e0 : Nat} (i : Nat) {q4 : Nat × Nat × Nat × Nat} {nm : String} (hi : hh[i]? = some q4) (hpass : ∀ q ∈ hh.take i, q.2.2.2 ≠ 0 ∧ ∃ nm, Cond.classLink own q.2.2.2 nm ∈ wAll ∧ (eN e0, nm) ∈ ncP) (hx : covers ⟨q4.1, q4.2.1, q4.2.2.1, q4.2.2.2⟩ pc = true) (h0 : q4.2.2.2 ≠ 0) (hlink : Cond.classLink own q4.2.2.2 nm ∈ wAll) (hcast : Cond.castable (eN e0) nm ∈ wOdd) (k : ∀ q : Nat, gG w p l e R s m args below meth c nL k0 n0 Q d lv q4.2.2.1 [.ref q]) : gT w p l e R s m args below meth c nL k0 n0 Q d e0 lv pc st := by
  intro H locs ls q ce hl hP hS hce hv hcl
  have hsp : c.exceptionTable.toList = tableOf (hh.take i) ++ (⟨q4.1, q4.2.1, q4.2.2.1, q4.2.2.2⟩ : ExceptionTableEntry) :: tableOf (hh.drop (i + 1)) := by
    rw [htab]
    have h9 : hh = hh.take i ++ q4 :: hh.drop (i + 1) := by
      obtain ⟨hlt, rfl⟩ := List.getElem?_eq_some_iff.mp hi
      rw [List.getElem_cons_drop, List.take_append_drop]
    conv => lhs; rw [h9]
    unfold tableOf
    rw [List.map_append, List.map_cons]
  refine vx_catch C.2.2.2.1 _ _ _ hsp (fun z hz => ?_) hx h0 (C.2.2.2.2.1 _ hlink) (va_Nw.use rfl (k_odd C hcast)) hce hv hcl (k q H locs ls hl hP hS)
  obtain ⟨q5, h5, rfl⟩ := List.mem_map.mp hz
  obtain ⟨g1, nm2, g2, g3⟩ := hpass q5 h5
  exact Or.inr ⟨g1, nm2, C.2.2.2.2.1 _ g2, k_nc C g3⟩
theorem g_callSW (C : gC w p s m args c cc nL own) {ix maxL nA n2 N mcR msR mc2 ms2 : Nat} (k1 n1 : Nat) {y : MethodName} {bytes : ByteArray} {ret : Option FieldType} {hh : List (Nat × Nat × Nat × Nat)} {As rest : List Value} {d' : Dt} {r : Int32} (V : hOK own ix y bytes maxL ret hh nA) (hR : R = gRmX N mcR msR) (hN : Nat.ble (n2 + 1) N = true) (hM : gMW w l y bytes maxL ret hh n2 mc2 ms2 As d d' (some (.int r))) (hA : As.length = nA) (hr : Nat.ble rest.length 4 = true) (hst : st = As.reverse ++ rest) (hd : decode cc pc = .ok (.invokestatic ix, 3)) (hk : k0 + mc2 = k1) (hn : n0 + ms2 = n1) (hk1 : k1 ≤ mcR) (hn1 : n1 ≤ msR) (k : gG w p l e R s m args below meth c nL k1 n1 Q d' lv (pc + 3) (.int r :: rest)) : gG w p l e R s m args below meth c nL k0 n0 Q d lv pc st := by
  intro H locs ls hl hP hS
  obtain ⟨t1, t2, t3, hmx, hlk, hin⟩ := V
  obtain ⟨hx, hb, hml, hown, hts, hK, hO, hB, hkw⟩ := C
  have hNN := Nat.le_of_ble_eq_true hN
  have hrr := Nat.le_of_ble_eq_true hr
  subst hst
  subst hk
  subst hn
  have hrun := vx_runSW (As := As) (rest := rest) (Ts := wAll) (cc := cc) (nL := nL) (H := H) (locs := locs) (cells := k0) (slots := n0) (below := below) (meth := meth) (e := e) (g := F0 m pc ls (As.reverse ++ rest)) ⟨hx, hb, hml, hown, hts⟩ hM (vx_cwSW (R := R) (own := own) (index := ix) nA hts (by
    intro x hx
    have e4 : x ∈ wAll := by
      rcases List.mem_append.mp hx with h | h
      · rcases List.mem_cons.mp h with rfl | h
        · exact hlk
        rcases List.mem_cons.mp h with rfl | h
        · exact hin
        rcases List.mem_cons.mp h with rfl | h
        · exact t2
        · cases h
      · rcases List.mem_cons.mp h with rfl | h
        · exact t1
        · exact h
    exact ⟨e4, good_of_word (wAll_good e4)⟩) rfl rfl rfl t3 ⟨by rw [hR]; exact hNN, by rw [hR]; show 8 + (maxL + 11) + 40 * n2 ≤ 40 * N; omega⟩) ⟨wI_blind, fun U hU hW => ⟨rfl, wI_go hK hB hkw hP hS hU hW⟩⟩ rfl hA hl.1 rfl (lv_room (by have := rest_sum rest; omega)) hd ⟨by rw [hR]; exact hk1, by rw [hR]; exact hn1⟩
  intro T hT X
  obtain ⟨v, st₀, t, T', L, h0, X', hL, e1, e2, ⟨hv, hp, hz, hkk⟩, stp⟩ := hrun T hT X
  cases hv
  rw [h0] at hz hkk
  obtain ⟨t2, a1, b1⟩ := k T'.heap (locs ++ L) ls hl (by rw [e1]; exact hp)
    ⟨Nat.le_trans hS.1 (by rw [e1]; exact hz), fun q h1 h2 => by rw [e1, hkk q (Nat.lt_of_lt_of_le h1 hS.1) h2]; exact hS.2.1 q h1 h2, fun q hq => by
      rcases List.mem_append.mp hq with h | h
      · exact hS.2.2 q h
      · exact hL q h⟩ T' rfl X'
  exact ⟨t2, stp t2 a1, b1⟩
/-- the script, outside our cells -/
theorem g_xald (C : gC w p s m args c cc nL own) {b L : Nat} {xs : Nat → Int32} (hX : va_X b L xs s s.heap) (hb : ¬ A_W w b) {i : Int32} (hi : inb i L = true) (hd : decode cc pc = .ok (.iaload, 1)) (k : gG w p l e R s m args below meth c nL k0 n0 Q d lv (pc + 1) (.int (xs i.toNatClampNeg) :: st)) : gG w p l e R s m args below meth c nL k0 n0 Q d lv pc (.int i :: .ref b :: st) := by
  intro H locs ls hl hP hS
  obtain ⟨scr, h1, h2, h3, h4, h5⟩ := hX
  have hcell : H[b]? = some scr := by rw [hS.2.1 b (Array.getElem?_eq_some_iff.mp h1).1 hb]; exact h1
  have hin := inb_in hi
  have hlt : i.toNatClampNeg < L := Nat.not_le.mp fun q => hin (Or.inr q)
  exact W.iald C.1 C.2.1 hcell h2 h3 (by rw [h4]; exact hin) (h5 _ hlt) rfl rfl hd (k H locs ls hl hP hS)
theorem g_xlen (C : gC w p s m args c cc nL own) {b L : Nat} {xs : Nat → Int32} (hX : va_X b L xs s s.heap) (hb : ¬ A_W w b) (hd : decode cc pc = .ok (.arraylength, 1)) (k : gG w p l e R s m args below meth c nL k0 n0 Q d lv (pc + 1) (.int (Int32.ofNat L) :: st)) : gG w p l e R s m args below meth c nL k0 n0 Q d lv pc (.ref b :: st) := by
  intro H locs ls hl hP hS
  obtain ⟨scr, h1, h2, h3, h4, h5⟩ := hX
  have hcell : H[b]? = some scr := by rw [hS.2.1 b (Array.getElem?_eq_some_iff.mp h1).1 hb]; exact h1
  exact W.alen C.1 C.2.1 hcell h2 (by rw [h4]) rfl rfl hd (k H locs ls hl hP hS)
end GZ
theorem gMW_of {w : wT} {l : Launch} {y : MethodName} {cc : ByteArray} {maxL n mc ms : Nat} {ret : Option FieldType} {hh : List (Nat × Nat × Nat × Nat)} {av : List Value} {d d' : Dt} {ov : Option Value} (hpl : plainName y.cls = true) (lv0 : List (Nat × Value)) (hlv : lv_args 0 av = lv0) (hlen : Nat.ble (lg_sl av).length maxL = true)
    (body : ∀ (p : Program) (e : Env) (R : Room) (s : State) (m : MethodId) (args : Array Value) (below : List Frame) (meth : Method) (c : Code), gC w p s m args c cc maxL y.cls → R = gRmX n mc ms → meth.sig.returnType = ret → meth.locks = false → c.exceptionTable.toList = tableOf hh → gG w p l e R s m args below meth c maxL 0 0 (gEW w below args s mc ms d' ov) d lv0 0 []) (hO : okW w) : gMW w l y cc maxL ret hh n mc ms av d d' ov := by
  refine va_MetW (cc := cc) (maxL := maxL) (ret := ret) (hh := hh) hpl rfl ?_
  intro p e s m args below meth c s₁ B hml hv
  obtain ⟨rfl, hP, hK, hB, hkw⟩ := hv
  have hts := atoms_spec (ws := Cond.codeWith y cc maxL ret hh :: wAll) B.pre
  have hown : s.vm.findClass y.cls = some m.cls := findClass_of_methodNamed B.named
  have hl := lv_entry av (n := maxL) (Nat.le_of_ble_eq_true hlen)
  rw [lg_entry_eq]
  rw [hlv] at hl
  exact body p e _ s m _ below meth c ⟨B.exec, B.bytes, hml, hown, fun x hx => hts x (List.mem_cons_of_mem _ hx), hK, hO, hB, hkw⟩ rfl B.returns B.notSynchronized (vx_table (x := y) B (hts _ List.mem_cons_self)) s.heap [] _ hl hP va_S.rf
