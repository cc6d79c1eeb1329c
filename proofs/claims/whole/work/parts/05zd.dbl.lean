/-! 05zd: doubles and floats -/
def vn64 (v : UInt64) : Bool := decide (v &&& 0x7fffffffffffffff ≤ 0x7ff0000000000000)
theorem vn64_1 {v : UInt64} (h : vn64 v = true) : vf_n64 v := by
  unfold vf_n64
  exact of_decide_eq_true h
def vn32 (v : UInt32) : Bool := decide (v &&& 0x7fffffff ≤ 0x7f800000)
theorem vn32_1 {v : UInt32} (h : vn32 v = true) : vf_n32 v := by
  unfold vf_n32
  exact of_decide_eq_true h
def loD (v : UInt64) : Int32 := v.toUInt32.toInt32
def hiD (v : UInt64) : Int32 := (v >>> 32).toUInt32.toInt32
theorem dblW_lohi (v : UInt64) : dblW (loD v) (hiD v) = v := by
  unfold dblW loD hiD
  rw [UInt32.toUInt32_toInt32, UInt32.toUInt32_toInt32]
  apply UInt64.toNat_inj.mp
  rw [UInt64.toNat_add, UInt64.toNat_mul]
  have h1 : v.toUInt32.toUInt64.toNat = v.toNat % 2 ^ 32 := by simp
  have h2 : (v >>> 32).toUInt32.toUInt64.toNat = v.toNat / 2 ^ 32 % 2 ^ 32 := by
    simp [Nat.shiftRight_eq_div_pow]
  have h3 : (4294967296 : UInt64).toNat = 2 ^ 32 := by decide
  rw [h1, h2, h3]
  have h4 := v.toNat_lt
  omega
def wrd (d : Dt) (k : Nat) (v : UInt64) : Dt := wrf d k (upd (upd (d k) 0 (loD v)) 1 (hiD v))
section GD
variable {w : wT} {p : Program} {l : Launch} {e : Env} {R : Room} {s : State} {m : MethodId} {args : Array Value} {below : List Frame} {meth : Method} {c : Code} {cc : ByteArray} {nL k0 n0 : Nat} {own : String} {Q : State → Prop} {d : Dt} {lv : List (Nat × Value)} {pc : Nat} {st : List Value}
theorem g_i2d (C : gC w p s m args c cc nL own) {x : Int32} (hd : decode cc pc = .ok (.i2d, 1)) (k : gG w p l e R s m args below meth c nL k0 n0 Q d lv (pc + 1) (.double (FP.i2d x) :: st)) : gG w p l e R s m args below meth c nL k0 n0 Q d lv pc (.int x :: st) :=
  fun H locs ls hl hP hS => lv_i2d C.1 C.2.1 hd (k H locs ls hl hP hS)
theorem g_i2f (C : gC w p s m args c cc nL own) {x : Int32} (hd : decode cc pc = .ok (.i2f, 1)) (k : gG w p l e R s m args below meth c nL k0 n0 Q d lv (pc + 1) (.float (FP.i2f x) :: st)) : gG w p l e R s m args below meth c nL k0 n0 Q d lv pc (.int x :: st) :=
  fun H locs ls hl hP hS => lv_i2f C.1 C.2.1 hd (k H locs ls hl hP hS)
theorem g_dconst0 (C : gC w p s m args c cc nL own) (hd : decode cc pc = .ok (.dconst 0, 1)) (k : gG w p l e R s m args below meth c nL k0 n0 Q d lv (pc + 1) (.double FP.dconst0 :: st)) : gG w p l e R s m args below meth c nL k0 n0 Q d lv pc st :=
  fun H locs ls hl hP hS => lv_dconst0 C.1 C.2.1 hd (k H locs ls hl hP hS)
theorem g_fconst0 (C : gC w p s m args c cc nL own) (hd : decode cc pc = .ok (.fconst 0, 1)) (k : gG w p l e R s m args below meth c nL k0 n0 Q d lv (pc + 1) (.float FP.fconst0 :: st)) : gG w p l e R s m args below meth c nL k0 n0 Q d lv pc st :=
  fun H locs ls hl hP hS => lv_fconst0 C.1 C.2.1 hd (k H locs ls hl hP hS)
theorem g_ddiv (C : gC w p s m args c cc nL own) {x y : UInt64} (hd : decode cc pc = .ok (.ddiv, 1)) (hn : vf_n64 (FP.ddiv x y)) (k : gG w p l e R s m args below meth c nL k0 n0 Q d lv (pc + 1) (.double (FP.ddiv x y) :: st)) : gG w p l e R s m args below meth c nL k0 n0 Q d lv pc (.double y :: .double x :: st) :=
  fun H locs ls hl hP hS => lv_ddiv C.1 C.2.1 hd hn (k H locs ls hl hP hS)
theorem g_fdiv (C : gC w p s m args c cc nL own) {x y : UInt32} (hd : decode cc pc = .ok (.fdiv, 1)) (hn : vf_n32 (FP.fdiv x y)) (k : gG w p l e R s m args below meth c nL k0 n0 Q d lv (pc + 1) (.float (FP.fdiv x y) :: st)) : gG w p l e R s m args below meth c nL k0 n0 Q d lv pc (.float y :: .float x :: st) :=
  fun H locs ls hl hP hS => lv_fdiv C.1 C.2.1 hd hn (k H locs ls hl hP hS)
theorem g_f2d (C : gC w p s m args c cc nL own) {x : UInt32} (hd : decode cc pc = .ok (.f2d, 1)) (hn : vf_n64 (FP.f2d x)) (k : gG w p l e R s m args below meth c nL k0 n0 Q d lv (pc + 1) (.double (FP.f2d x) :: st)) : gG w p l e R s m args below meth c nL k0 n0 Q d lv pc (.float x :: st) :=
  fun H locs ls hl hP hS => lv_f2d C.1 C.2.1 hd hn (k H locs ls hl hP hS)
theorem g_dcmp (C : gC w p s m args c cc nL own) {x y : UInt64} {op : CmpOp} (hd : decode cc pc = .ok (.dcmp op, 1)) (k : gG w p l e R s m args below meth c nL k0 n0 Q d lv (pc + 1) (.int (Op.cmpValue (FP.dcmp x y) op) :: st)) : gG w p l e R s m args below meth c nL k0 n0 Q d lv pc (.double y :: .double x :: st) :=
  fun H locs ls hl hP hS => lv_dcmp C.1 C.2.1 hd (k H locs ls hl hP hS)
theorem g_fcmp (C : gC w p s m args c cc nL own) {x y : UInt32} {op : CmpOp} (hd : decode cc pc = .ok (.fcmp op, 1)) (k : gG w p l e R s m args below meth c nL k0 n0 Q d lv (pc + 1) (.int (Op.cmpValue (FP.fcmp x y) op) :: st)) : gG w p l e R s m args below meth c nL k0 n0 Q d lv pc (.float y :: .float x :: st) :=
  fun H locs ls hl hP hS => lv_fcmp C.1 C.2.1 hd (k H locs ls hl hP hS)
theorem g_dload (C : gC w p s m args c cc nL own) {i : Nat} {x : UInt64} (hd : decode cc pc = .ok (.dload i, 2)) (j : Nat) (hj : lv[j]? = some (i, .double x)) (k : gG w p l e R s m args below meth c nL k0 n0 Q d lv (pc + 2) (.double x :: st)) : gG w p l e R s m args below meth c nL k0 n0 Q d lv pc st :=
  fun H locs ls hl hP hS => lv_dload C.1 C.2.1 hd (lv_at hl j hj) (k H locs ls hl hP hS)
theorem g_fload (C : gC w p s m args c cc nL own) {i : Nat} {x : UInt32} (hd : decode cc pc = .ok (.fload i, 2)) (j : Nat) (hj : lv[j]? = some (i, .float x)) (k : gG w p l e R s m args below meth c nL k0 n0 Q d lv (pc + 2) (.float x :: st)) : gG w p l e R s m args below meth c nL k0 n0 Q d lv pc st :=
  fun H locs ls hl hP hS => lv_fload C.1 C.2.1 hd (lv_at hl j hj) (k H locs ls hl hP hS)
theorem g_dstore (C : gC w p s m args c cc nL own) {i : Nat} {x : UInt64} (lv' : List (Nat × Value)) (hd : decode cc pc = .ok (.dstore i, 2)) (hn : i + 1 < nL) (hl' : (i, Value.double x) :: lv.filter (fun q => !(q.1 == i) && (!(q.1 == i + 1) && !(q.1 + 1 == i && q.2.category == 2))) = lv') (k : gG w p l e R s m args below meth c nL k0 n0 Q d lv' (pc + 2) st) : gG w p l e R s m args below meth c nL k0 n0 Q d lv pc (.double x :: st) :=
  fun H locs ls hl hP hS => lv_dstore C.1 C.2.1 hd hl hn hl' (fun ls' hl2 => k H locs ls' hl2 hP hS)
theorem g_fstore (C : gC w p s m args c cc nL own) {i : Nat} {x : UInt32} (lv' : List (Nat × Value)) (hd : decode cc pc = .ok (.fstore i, 2)) (hn : i < nL) (hl' : (i, Value.float x) :: lv.filter (fun q => !(q.1 == i) && !(q.1 + 1 == i && q.2.category == 2)) = lv') (k : gG w p l e R s m args below meth c nL k0 n0 Q d lv' (pc + 2) st) : gG w p l e R s m args below meth c nL k0 n0 Q d lv pc (.float x :: st) :=
  fun H locs ls hl hP hS => lv_fstore C.1 C.2.1 hd hl hn hl' (fun ls' hl2 => k H locs ls' hl2 hP hS)
theorem g_dald (C : gC w p s m args c cc nL own) (q0 : Nat) (hq : isC q0 26 1) (hd : decode cc pc = .ok (.daload, 1)) (k : gG w p l e R s m args below meth c nL k0 n0 Q d lv (pc + 1) (.double (dblW (d q0 0) (d q0 1)) :: st)) : gG w p l e R s m args below meth c nL k0 n0 Q d lv pc (.int 0 :: .ref (w_r w q0) :: st) :=
  fun H locs ls hl hP hS => va_dald C.1 C.2.1 C.2.2.2.2.2.1 hP q0 6 (wsW_row hq rfl) rfl (i := 0) (inb_in (by decide)) hd (k H locs ls hl hP hS)
theorem g_dast (C : gC w p s m args c cc nL own) {x : UInt64} (q0 : Nat) (hq : isC q0 26 1) (hd : decode cc pc = .ok (.dastore, 1)) (k : gG w p l e R s m args below meth c nL k0 n0 Q (wrd d q0 x) lv (pc + 1) st) : gG w p l e R s m args below meth c nL k0 n0 Q d lv pc (.double x :: .int 0 :: .ref (w_r w q0) :: st) :=
  fun H locs ls hl hP hS => va_dast C.1 C.2.1 C.2.2.2.2.2.1 hP (dW C.2.2.2.2.2.2.1) hS q0 6 (wsW_row hq rfl) rfl (i := 0) (inb_in (by decide)) hd (fun H1 locs1 hP1 _ hS1 => k H1 locs1 ls hl (by
    have e1 : ∀ g : Nat → UInt64, (∀ j, g j = (if j = 0 then x else dblW (d q0 (2 * j)) (d q0 (2 * j + 1)))) → g = fun j => dblW (upd (upd (d q0) 0 (loD x)) 1 (hiD x) (2 * j)) (upd (upd (d q0) 0 (loD x)) 1 (hiD x) (2 * j + 1)) := by
      intro g hg
      funext j
      rw [hg j]
      unfold upd
      by_cases h : j = 0
      · subst h
        rw [if_pos rfl, if_neg (by decide), if_pos (by decide), if_pos (by decide), dblW_lohi]
      · rw [if_neg h, if_neg (by omega), if_neg (by omega), if_neg (by omega), if_neg (by omega)]
    rw [show (0 : Int32).toNatClampNeg = 0 from by decide, e1 (vf_upd (fun j => dblW (d q0 (2 * j)) (d q0 (2 * j + 1))) 0 x) (fun j => rfl)] at hP1
    have e2 : (wsW w d).set q0 (w_r w q0, .inl (w_c w 26, 1, .inr (.inr (.inr (.inl fun j => dblW (upd (upd (d q0) 0 (loD x)) 1 (hiD x) (2 * j)) (upd (upd (d q0) 0 (loD x)) 1 (hiD x) (2 * j + 1))))))) = wsW w (wrd d q0 x) := by
      refine wsW_put hq ?_
      rfl
    rwa [e2] at hP1) hS1)
theorem g_dret (C : gC w p s m args c cc nL own) {v : UInt64} {d' : Dt} {ov : Option Value} (hr : meth.sig.returnType = some .double) (hlk : meth.locks = false) (he : d = d') (hv : some (.double v) = ov) (hd : decode cc pc = .ok (.dreturn, 1)) : gG w p l e R s m args below meth c nL 0 0 (gE w below args s d' ov) d lv pc [.double v] := by
  subst he
  subst hv
  exact fun H locs ls hl hP hS => W.dret C.1 C.2.1 hr (fun t ht hW => ⟨rfl, by rw [ht]; exact hP, hS.F ht⟩) hS.2.2 hd hlk
theorem g_fret (C : gC w p s m args c cc nL own) {v : UInt32} {d' : Dt} {ov : Option Value} (hr : meth.sig.returnType = some .float) (hlk : meth.locks = false) (he : d = d') (hv : some (.float v) = ov) (hd : decode cc pc = .ok (.freturn, 1)) : gG w p l e R s m args below meth c nL 0 0 (gE w below args s d' ov) d lv pc [.float v] := by
  subst he
  subst hv
  exact fun H locs ls hl hP hS => W.fret C.1 C.2.1 hr (fun t ht hW => ⟨rfl, by rw [ht]; exact hP, hS.F ht⟩) hS.2.2 hd hlk
theorem g_dretX (C : gC w p s m args c cc nL own) {v : UInt64} {mc ms : Nat} {o : oT} (hr : meth.sig.returnType = some .double) (hlk : meth.locks = false) (hk : Nat.ble k0 mc = true) (hn0 : Nat.ble n0 ms = true) (ho : o = .inl (some (.double v), d)) (hd : decode cc pc = .ok (.dreturn, 1)) : gG w p l e R s m args below meth c nL k0 n0 (gEX w below args s mc ms o) d lv pc [.double v] :=
  fun H locs ls hl hP hS => vx_ret (W.widen (k := mc) (n := ms) (Nat.le_of_ble_eq_true hk) (Nat.le_of_ble_eq_true hn0) (W.dret C.1 C.2.1 hr (fun t ht hW => ⟨_, d, ho, rfl, by rw [ht]; exact hP, hS.F ht⟩) hS.2.2 hd hlk))
theorem g_fretX (C : gC w p s m args c cc nL own) {v : UInt32} {mc ms : Nat} {o : oT} (hr : meth.sig.returnType = some .float) (hlk : meth.locks = false) (hk : Nat.ble k0 mc = true) (hn0 : Nat.ble n0 ms = true) (ho : o = .inl (some (.float v), d)) (hd : decode cc pc = .ok (.freturn, 1)) : gG w p l e R s m args below meth c nL k0 n0 (gEX w below args s mc ms o) d lv pc [.float v] :=
  fun H locs ls hl hP hS => vx_ret (W.widen (k := mc) (n := ms) (Nat.le_of_ble_eq_true hk) (Nat.le_of_ble_eq_true hn0) (W.fret C.1 C.2.1 hr (fun t ht hW => ⟨_, d, ho, rfl, by rw [ht]; exact hP, hS.F ht⟩) hS.2.2 hd hlk))
end GD
theorem g_callVd {w : wT} {p : Program} {l : Launch} {e : Env} {R : Room} {s : State} {m : MethodId} {args : Array Value} {below : List Frame} {meth : Method} {c : Code} {cc : ByteArray} {nL k0 n0 : Nat} {own : String} {Q : State → Prop} {d : Dt} {lv : List (Nat × Value)} {pc : Nat} {st : List Value} (C : gC w p s m args c cc nL own) {ix ci maxL nA n n2 N : Nat} {y : MethodName} {bytes : ByteArray} {ret : Option FieldType} {As rest : List Value} {d' : Dt} {r : UInt64} (q0 : Nat) (hq : isC q0 ci n) (V : vOK own ix ci y bytes maxL ret nA) {mcR msR : Nat} (hR : R = gRmX N mcR msR) (hN : Nat.ble (n2 + 1) N = true) (hM : gM w l y bytes maxL ret n2 (.ref (w_r w q0) :: As) d d' (some (.double r))) (hA : As.length = nA) (hr : Nat.ble rest.length 4 = true) (hst : st = As.reverse ++ .ref (w_r w q0) :: rest) (hd : decode cc pc = .ok (.invokevirtual ix, 3)) (hk0 : Nat.ble k0 mcR = true) (hn0 : Nat.ble n0 msR = true) (k : gG w p l e R s m args below meth c nL k0 n0 Q d' lv (pc + 3) (.double r :: rest)) : gG w p l e R s m args below meth c nL k0 n0 Q d lv pc st := g_callV C q0 hq V hR hN hM hA hr hst hd k hk0 hn0
theorem g_callVf {w : wT} {p : Program} {l : Launch} {e : Env} {R : Room} {s : State} {m : MethodId} {args : Array Value} {below : List Frame} {meth : Method} {c : Code} {cc : ByteArray} {nL k0 n0 : Nat} {own : String} {Q : State → Prop} {d : Dt} {lv : List (Nat × Value)} {pc : Nat} {st : List Value} (C : gC w p s m args c cc nL own) {ix ci maxL nA n n2 N : Nat} {y : MethodName} {bytes : ByteArray} {ret : Option FieldType} {As rest : List Value} {d' : Dt} {r : UInt32} (q0 : Nat) (hq : isC q0 ci n) (V : vOK own ix ci y bytes maxL ret nA) {mcR msR : Nat} (hR : R = gRmX N mcR msR) (hN : Nat.ble (n2 + 1) N = true) (hM : gM w l y bytes maxL ret n2 (.ref (w_r w q0) :: As) d d' (some (.float r))) (hA : As.length = nA) (hr : Nat.ble rest.length 4 = true) (hst : st = As.reverse ++ .ref (w_r w q0) :: rest) (hd : decode cc pc = .ok (.invokevirtual ix, 3)) (hk0 : Nat.ble k0 mcR = true) (hn0 : Nat.ble n0 msR = true) (k : gG w p l e R s m args below meth c nL k0 n0 Q d' lv (pc + 3) (.float r :: rest)) : gG w p l e R s m args below meth c nL k0 n0 Q d lv pc st := g_callV C q0 hq V hR hN hM hA hr hst hd k hk0 hn0
def oRD (d : Dt) (z : UInt64 ⊕ Nat) : oT := match z with
  | .inl r => .inl (some (.double r), d)
  | .inr e => .inr (e, d)
theorem oRD_i {r : UInt64} {d : Dt} {z : UInt64 ⊕ Nat} (h : some (.inl r) = some z) : oRD d z = .inl (some (.double r), d) := by cases h; rfl
theorem oRD_t {e : Nat} {d : Dt} {z : UInt64 ⊕ Nat} (h : some (.inr e) = some z) : oRD d z = .inr (e, d) := by cases h; rfl
def ocRD {X : Type} (a : Option (UInt64 ⊕ Nat)) (kI : UInt64 → Option X) (kT : Nat → Option X) : Option X := match a with
  | none => none
  | some (.inl r) => kI r
  | some (.inr q) => kT q
theorem ocRD_1 {X : Type} {a : Option (UInt64 ⊕ Nat)} {kI : UInt64 → Option X} {kT : Nat → Option X} {y : X} (h : ocRD a kI kT = some y) : ∃ z, a = some z ∧ ocRD (some z) kI kT = some y := by
  cases a with
  | none => cases h
  | some z => exact ⟨z, rfl, h⟩
theorem ocRD_i {X : Type} {r : UInt64} {kI : UInt64 → Option X} {kT : Nat → Option X} {y : X} (h : ocRD (some (.inl r)) kI kT = some y) : kI r = some y := h
theorem ocRD_t {X : Type} {e : Nat}  {kI : UInt64 → Option X} {kT : Nat → Option X} {y : X} (h : ocRD (some (.inr e)) kI kT = some y) : kT e = some y := h
theorem g_callVRD {w : wT} {p : Program} {l : Launch} {e : Env} {R : Room} {s : State} {m : MethodId} {args : Array Value} {below : List Frame} {meth : Method} {c : Code} {cc : ByteArray} {nL k0 n0 : Nat} {own : String} {Q : State → Prop} {d : Dt} {lv : List (Nat × Value)} {pc : Nat} {st : List Value} (C : gC w p s m args c cc nL own) {ix ci maxL nA n n2 N mcR msR mc2 ms2 : Nat} (k1 n1 : Nat) {y : MethodName} {bytes : ByteArray} {ret : Option FieldType} {As rest : List Value} {z : UInt64 ⊕ Nat} (q0 : Nat) (hq : isC q0 ci n) (V : vOK own ix ci y bytes maxL ret nA) (hR : R = gRmX N mcR msR) (hN : Nat.ble (n2 + 1) N = true) (hM : gMX w l y bytes maxL ret n2 mc2 ms2 (.ref (w_r w q0) :: As) d (oRD d z)) (hA : As.length = nA) (hr : Nat.ble rest.length 4 = true) (hst : st = As.reverse ++ .ref (w_r w q0) :: rest) (hd : decode cc pc = .ok (.invokevirtual ix, 3)) (hk : k0 + mc2 = k1) (hn : n0 + ms2 = n1) (hk1 : Nat.ble k1 mcR = true) (hn1 : Nat.ble n1 msR = true) (kI : ∀ r, z = .inl r → gG w p l e R s m args below meth c nL k1 n1 Q d lv (pc + 3) (.double r :: rest)) (kT : ∀ e0, z = .inr e0 → gT w p l e R s m args below meth c nL k1 n1 Q d e0 lv pc rest) : gG w p l e R s m args below meth c nL k0 n0 Q d lv pc st :=
  g_callVX C k1 n1 q0 hq V hR hN hM hA hr hst hd hk hn hk1 hn1 (fun ov d' h => by
    rcases z with r | e1
    · cases h; exact kI r rfl
    · cases h) (fun e0 d' h => by
    rcases z with r | e1
    · cases h
    · cases h; exact kT _ rfl)
def oRF (d : Dt) (z : UInt32 ⊕ Nat) : oT := match z with
  | .inl r => .inl (some (.float r), d)
  | .inr e => .inr (e, d)
theorem oRF_i {r : UInt32} {d : Dt} {z : UInt32 ⊕ Nat} (h : some (.inl r) = some z) : oRF d z = .inl (some (.float r), d) := by cases h; rfl
theorem oRF_t {e : Nat} {d : Dt} {z : UInt32 ⊕ Nat} (h : some (.inr e) = some z) : oRF d z = .inr (e, d) := by cases h; rfl
def ocRF {X : Type} (a : Option (UInt32 ⊕ Nat)) (kI : UInt32 → Option X) (kT : Nat → Option X) : Option X := match a with
  | none => none
  | some (.inl r) => kI r
  | some (.inr q) => kT q
theorem ocRF_1 {X : Type} {a : Option (UInt32 ⊕ Nat)} {kI : UInt32 → Option X} {kT : Nat → Option X} {y : X} (h : ocRF a kI kT = some y) : ∃ z, a = some z ∧ ocRF (some z) kI kT = some y := by
  cases a with
  | none => cases h
  | some z => exact ⟨z, rfl, h⟩
theorem ocRF_i {X : Type} {r : UInt32} {kI : UInt32 → Option X} {kT : Nat → Option X} {y : X} (h : ocRF (some (.inl r)) kI kT = some y) : kI r = some y := h
theorem ocRF_t {X : Type} {e : Nat}  {kI : UInt32 → Option X} {kT : Nat → Option X} {y : X} (h : ocRF (some (.inr e)) kI kT = some y) : kT e = some y := h
theorem g_callVRF {w : wT} {p : Program} {l : Launch} {e : Env} {R : Room} {s : State} {m : MethodId} {args : Array Value} {below : List Frame} {meth : Method} {c : Code} {cc : ByteArray} {nL k0 n0 : Nat} {own : String} {Q : State → Prop} {d : Dt} {lv : List (Nat × Value)} {pc : Nat} {st : List Value} (C : gC w p s m args c cc nL own) {ix ci maxL nA n n2 N mcR msR mc2 ms2 : Nat} (k1 n1 : Nat) {y : MethodName} {bytes : ByteArray} {ret : Option FieldType} {As rest : List Value} {z : UInt32 ⊕ Nat} (q0 : Nat) (hq : isC q0 ci n) (V : vOK own ix ci y bytes maxL ret nA) (hR : R = gRmX N mcR msR) (hN : Nat.ble (n2 + 1) N = true) (hM : gMX w l y bytes maxL ret n2 mc2 ms2 (.ref (w_r w q0) :: As) d (oRF d z)) (hA : As.length = nA) (hr : Nat.ble rest.length 4 = true) (hst : st = As.reverse ++ .ref (w_r w q0) :: rest) (hd : decode cc pc = .ok (.invokevirtual ix, 3)) (hk : k0 + mc2 = k1) (hn : n0 + ms2 = n1) (hk1 : Nat.ble k1 mcR = true) (hn1 : Nat.ble n1 msR = true) (kI : ∀ r, z = .inl r → gG w p l e R s m args below meth c nL k1 n1 Q d lv (pc + 3) (.float r :: rest)) (kT : ∀ e0, z = .inr e0 → gT w p l e R s m args below meth c nL k1 n1 Q d e0 lv pc rest) : gG w p l e R s m args below meth c nL k0 n0 Q d lv pc st :=
  g_callVX C k1 n1 q0 hq V hR hN hM hA hr hst hd hk hn hk1 hn1 (fun ov d' h => by
    rcases z with r | e1
    · cases h; exact kI r rfl
    · cases h) (fun e0 d' h => by
    rcases z with r | e1
    · cases h
    · cases h; exact kT _ rfl)
theorem g_nmD {w : wT} {p : Program} {l : Launch} {e : Env} {R : Room} {s : State} {m : MethodId} {args : Array Value} {below : List Frame} {meth : Method} {c : Code} {nL k0 n0 : Nat} {Q : State → Prop} {d t : Dt} {lv : List (Nat × Value)} {pc : Nat} {st : List Value} (ht : t = d) (k : gG w p l e R s m args below meth c nL k0 n0 Q t lv pc st) : gG w p l e R s m args below meth c nL k0 n0 Q d lv pc st := ht ▸ k
