/-! 05: fields, rows, calls, returns, loops, methods over the data heap -/
theorem wlen_ble {w : wT} {d : Dt} {k ci n : Nat} (h : isC k ci n) (hc : Nat.ble 20 ci = false) : (wsW w d)[k]? = some (w_r w k, .inr (ci, fldsW ci (rfW w k) (kdW w) (d k))) := by
  rw [wsW_is h]
  unfold entS
  rw [hc]
  rfl
theorem wsW_row {w : wT} {d : Dt} {k ci n : Nat} (h : isC k ci n) (hc : Nat.ble 20 ci = true) : (wsW w d)[k]? = some (w_r w k, .inl (w_c w ci, n, contsW w ci k (d k))) := by
  rw [wsW_is h]
  unfold entS
  rw [hc]
  rfl
theorem wsW_putf {w : wT} {d : Dt} {k ci n j : Nat} {v : Int32} {u : Value} (h : isC k ci n) (hc : Nat.ble 20 ci = false) (hs : fldsW ci (rfW w k) (kdW w) (upd (d k) j v) = (fldsW ci (rfW w k) (kdW w) (d k)).set j u) : (wsW w d).set k (w_r w k, .inr (ci, (fldsW ci (rfW w k) (kdW w) (d k)).set j u)) = wsW w (wr d k j v) := by
  refine wsW_put h ?_
  unfold entS
  rw [hc, hs]
  rfl
theorem wsW_putr {w : wT} {d : Dt} {k n : Nat} {ci : Nat} {f : Nat → Int32} (h : isC k ci n) (hc : Nat.ble 20 ci = true) (hf : contsW w ci k f = .inl f) : (wsW w d).set k (w_r w k, .inl (w_c w ci, n, .inl f)) = wsW w (wrf d k f) := by
  refine wsW_put h ?_
  unfold entS
  rw [hc, hf]
  rfl
/-- the index lies in a row of n -/
def inb (i : Int32) (n : Nat) : Bool := decide (0 ≤ i) && decide (i.toNatClampNeg < n)
theorem inb_in {i : Int32} {n : Nat} (h : inb i n = true) : vp_in i n := by
  unfold inb at h
  rw [Bool.and_eq_true, decide_eq_true_eq, decide_eq_true_eq] at h
  intro q
  rcases q with q | q
  · exact absurd q (by
      have h1 := Int32.le_iff_toInt_le.mp h.1
      intro q
      have h2 := Int32.lt_iff_toInt_lt.mp q
      omega)
  · omega
/-- a value that a row or a field of the type holds as it is -/
def nar (ty : FieldType) (x : Int32) : Bool := decide (narrow ty (.int x) = .int x)
theorem nar_n {ty : FieldType} {x : Int32} (h : nar ty x = true) : narrow ty (.int x) = .int x := of_decide_eq_true h
theorem nar_v {ty : FieldType} {x : Int32} (h : nar ty x = true) : vp_nar ty x = x := by
  unfold vp_nar
  rw [nar_n h]
/-- what the tables say of a field that is read -/
def fOK (own : String) (ix ci kf : Nat) : Prop := ∃ (Cn : String) (T : u_T) (ty : Nat → FieldType) (N : Nat), cOK ci Cn T ty N ∧ kf < N ∧ Cond.fieldLink own ix (T kf).1 (T kf).2.1 (T kf).2.2.1 ∈ wAll
/-- .. and that is written -/
def pOK (own : String) (ix ci kf : Nat) (fty : FieldType) : Prop := ∃ (Cn : String) (T : u_T) (ty : Nat → FieldType) (N : Nat), cOK ci Cn T ty N ∧ kf < N ∧ Cond.fieldLink own ix (T kf).1 (T kf).2.1 (T kf).2.2.1 ∈ wAll ∧ (T kf).2.2.2 = false ∧ parseFieldDescriptor (T kf).2.2.1 = some fty ∧ (∀ rf kd f v, fldsW ci rf kd (upd f kf v) = (fldsW ci rf kd f).set kf (.int v)) ∧ ∀ rf kd f, kf < (fldsW ci rf kd f).length
/-- what the tables say of a called method of an object -/
def vOK (own : String) (ix ci : Nat) (y : MethodName) (cc : ByteArray) (maxL : Nat) (ret : Option FieldType) (nA : Nat) : Prop :=
  yOK y cc maxL ret nA ∧ maxL ≤ 21 ∧ Cond.methodLink own ix y ∈ wAll ∧ Cond.instanceMethod y ∈ wAll ∧ Cond.selects y.cls y y ∈ wAll ∧ ∃ (T : u_T) (ty : Nat → FieldType) (N : Nat), cOK ci y.cls T ty N
/-- .. and of a static one -/
def sOK (own : String) (ix : Nat) (y : MethodName) (cc : ByteArray) (maxL : Nat) (ret : Option FieldType) (nA : Nat) : Prop :=
  yOK y cc maxL ret nA ∧ maxL ≤ 21 ∧ Cond.methodLink own ix y ∈ wAll ∧ Cond.static y ∈ wAll
theorem wI_blind {w : wT} {d : Dt} {av : List Value} : FrameBlind (va_Pc av (wI w d)) := by
  intro a U g mk q
  obtain ⟨q0, q1, q2, q3, q4⟩ := q
  exact ⟨q0, q1, va_K.moved (u := U) (U := U.calling g mk a) (Vm.Alike.refl U.vm) q2, q3, kW_go (u := U) (U := U.calling g mk a) (State.WarmedH.refl U) (fun _ _ _ => rfl) q4⟩
theorem wI_go {w : wT} {d : Dt} {s : State} {H : Heap} {locs : List Loc} (hK : va_K (w_G w) vwQ (tyW w) s) (hB : w_B w ≤ s.heap.size) (hk : kW w s s.heap) (hP : va_P (w_G w) vwQ (wsW w d) H) (hS : va_S (A_W w) s.heap H locs) {U : State} (hU : U.heap = H) (hW : s.WarmedH U.vm) : wI w d U := by
  refine ⟨by rw [hU]; exact hP, va_K.moved hW.alike hK, by rw [hU]; exact Nat.le_trans hB hS.1, kW_go hW ?_ hk⟩
  rw [hU]
  exact hS.2.1
section GR2
variable {w : wT} {p : Program} {l : Launch} {e : Env} {R : Room} {s : State} {m : MethodId} {args : Array Value} {below : List Frame} {meth : Method} {c : Code} {cc : ByteArray} {nL k0 n0 : Nat} {own : String} {Q : State → Prop} {d : Dt} {lv : List (Nat × Value)} {pc : Nat} {st : List Value}
theorem g_get (C : gC w p s m args c cc nL own) {ix ci kf n : Nat} (v : Value) (q0 : Nat) (hq : isC q0 ci n) (F : fOK own ix ci kf) (hv : (fldsW ci (rfW w q0) (kdW w) (d q0))[kf]? = some v) (hd : decode cc pc = .ok (.getfield ix, 3)) (k : gG w p l e R s m args below meth c nL k0 n0 Q d lv (pc + 3) (v :: st)) : gG w p l e R s m args below meth c nL k0 n0 Q d lv pc (.ref (w_r w q0) :: st) := by
  intro H locs ls hl hP hS
  obtain ⟨Cn, T, ty, N, K, hk, hlk⟩ := F
  obtain ⟨hx, hb, -, hown, hts, hK, -, -, -⟩ := C
  exact va_get hx hb hts K.2.2.2.1 hown hK hP q0 (wlen_ble hq K.1) K.2.1 kf hk (hts _ hlk) (fun _ h => h) hv hd (k H locs ls hl hP hS)
theorem g_put (C : gC w p s m args c cc nL own) {ix ci kf n : Nat} {fty : FieldType} {v : Int32} (q0 : Nat) (hq : isC q0 ci n) (F : pOK own ix ci kf fty) (hn : narrow fty (.int v) = .int v) (hf : fits fty (.int v) = true) (hd : decode cc pc = .ok (.putfield ix, 3)) (k : gG w p l e R s m args below meth c nL k0 n0 Q (wr d q0 kf v) lv (pc + 3) st) : gG w p l e R s m args below meth c nL k0 n0 Q d lv pc (.int v :: .ref (w_r w q0) :: st) := by
  intro H locs ls hl hP hS
  obtain ⟨Cn, T, ty, N, K, hk, hlk, hfin, hpd, hset, hlen⟩ := F
  obtain ⟨hx, hb, -, hown, hts, hK, hO, -, -⟩ := C
  refine va_put hx hb hts K.2.2.2.1 ty K.2.2.2.2.1 K.2.2.2.2.2 hown hK hP (dW hO) hS q0 (wlen_ble hq K.1) K.2.1 kf hk (hts _ hlk) (fun _ h => h) hfin hpd hn hf (hlen _ _ _) hd (fun H1 locs1 hP1 _ hS1 => k H1 locs1 ls hl ?_ hS1)
  rwa [wsW_putf hq K.1 (hset _ _ _ _)] at hP1
theorem g_iald (C : gC w p s m args c cc nL own) {n : Nat} {i : Int32} (q0 : Nat) (hq : isC q0 20 n) (hi : inb i n = true) (j : Nat) (hj : i.toNatClampNeg = j) (hd : decode cc pc = .ok (.iaload, 1)) (k : gG w p l e R s m args below meth c nL k0 n0 Q d lv (pc + 1) (.int (d q0 j) :: st)) : gG w p l e R s m args below meth c nL k0 n0 Q d lv pc (.int i :: .ref (w_r w q0) :: st) :=
  fun H locs ls hl hP hS => va_iald C.1 C.2.1 C.2.2.2.2.2.1 hP q0 0 (wsW_row hq rfl) rfl (inb_in hi) hd (by rw [hj]; exact k H locs ls hl hP hS)
theorem g_cald (C : gC w p s m args c cc nL own) {n : Nat} {i : Int32} (q0 : Nat) (hq : isC q0 21 n) (hi : inb i n = true) (j : Nat) (hj : i.toNatClampNeg = j) (hd : decode cc pc = .ok (.caload, 1)) (k : gG w p l e R s m args below meth c nL k0 n0 Q d lv (pc + 1) (.int (d q0 j) :: st)) : gG w p l e R s m args below meth c nL k0 n0 Q d lv pc (.int i :: .ref (w_r w q0) :: st) :=
  fun H locs ls hl hP hS => va_cald C.1 C.2.1 C.2.2.2.2.2.1 hP q0 1 (wsW_row hq rfl) rfl (inb_in hi) hd (by rw [hj]; exact k H locs ls hl hP hS)
theorem g_zald (C : gC w p s m args c cc nL own) {n : Nat} {i : Int32} (q0 : Nat) (hq : isC q0 22 n) (hi : inb i n = true) (j : Nat) (hj : i.toNatClampNeg = j) (hd : decode cc pc = .ok (.baload, 1)) (k : gG w p l e R s m args below meth c nL k0 n0 Q d lv (pc + 1) (.int (d q0 j) :: st)) : gG w p l e R s m args below meth c nL k0 n0 Q d lv pc (.int i :: .ref (w_r w q0) :: st) :=
  fun H locs ls hl hP hS => va_zald C.1 C.2.1 C.2.2.2.2.2.1 hP q0 2 (wsW_row hq rfl) rfl (inb_in hi) hd (by rw [hj]; exact k H locs ls hl hP hS)
theorem g_iast (C : gC w p s m args c cc nL own) {n : Nat} {i x : Int32} (q0 : Nat) (hq : isC q0 20 n) (hi : inb i n = true) (j : Nat) (hj : i.toNatClampNeg = j) (hd : decode cc pc = .ok (.iastore, 1)) (k : gG w p l e R s m args below meth c nL k0 n0 Q (wr d q0 j x) lv (pc + 1) st) : gG w p l e R s m args below meth c nL k0 n0 Q d lv pc (.int x :: .int i :: .ref (w_r w q0) :: st) :=
  fun H locs ls hl hP hS => va_iast C.1 C.2.1 C.2.2.2.2.2.1 hP (dW C.2.2.2.2.2.2.1) hS q0 0 (wsW_row hq rfl) rfl (inb_in hi) hd (fun H1 locs1 hP1 _ hS1 => k H1 locs1 ls hl (by rw [hj] at hP1; rwa [wsW_putr hq rfl rfl] at hP1) hS1)
theorem g_cast (C : gC w p s m args c cc nL own) {n : Nat} {i x : Int32} (q0 : Nat) (hq : isC q0 21 n) (hi : inb i n = true) (j : Nat) (hj : i.toNatClampNeg = j) (hn : vp_nar .char x = x) (hd : decode cc pc = .ok (.castore, 1)) (k : gG w p l e R s m args below meth c nL k0 n0 Q (wr d q0 j x) lv (pc + 1) st) : gG w p l e R s m args below meth c nL k0 n0 Q d lv pc (.int x :: .int i :: .ref (w_r w q0) :: st) :=
  fun H locs ls hl hP hS => va_cast C.1 C.2.1 C.2.2.2.2.2.1 hP (dW C.2.2.2.2.2.2.1) hS q0 1 (wsW_row hq rfl) rfl (inb_in hi) hd (fun H1 locs1 hP1 _ hS1 => k H1 locs1 ls hl (by rw [hn, hj] at hP1; rwa [wsW_putr hq rfl rfl] at hP1) hS1)
theorem g_zast (C : gC w p s m args c cc nL own) {n : Nat} {i x : Int32} (q0 : Nat) (hq : isC q0 22 n) (hi : inb i n = true) (j : Nat) (hj : i.toNatClampNeg = j) (hn : vp_nar .boolean x = x) (hd : decode cc pc = .ok (.bastore, 1)) (k : gG w p l e R s m args below meth c nL k0 n0 Q (wr d q0 j x) lv (pc + 1) st) : gG w p l e R s m args below meth c nL k0 n0 Q d lv pc (.int x :: .int i :: .ref (w_r w q0) :: st) :=
  fun H locs ls hl hP hS => va_zast C.1 C.2.1 C.2.2.2.2.2.1 hP (dW C.2.2.2.2.2.2.1) hS q0 2 (wsW_row hq rfl) rfl (inb_in hi) hd (fun H1 locs1 hP1 _ hS1 => k H1 locs1 ls hl (by rw [hn, hj] at hP1; rwa [wsW_putr hq rfl rfl] at hP1) hS1)
theorem g_alen (C : gC w p s m args c cc nL own) {ci n : Nat} {ty : FieldType} (v : Int32) (q0 : Nat) (hq : isC q0 ci n) (hc : Nat.ble 20 ci = true) (t0 : Nat) (ht : (tyW w)[t0]? = some (w_c w ci, ty)) (hv : Int32.ofNat n = v) (hd : decode cc pc = .ok (.arraylength, 1)) (k : gG w p l e R s m args below meth c nL k0 n0 Q d lv (pc + 1) (.int v :: st)) : gG w p l e R s m args below meth c nL k0 n0 Q d lv pc (.ref (w_r w q0) :: st) :=
  fun H locs ls hl hP hS => va_alen C.1 C.2.1 C.2.2.2.2.2.1 hP q0 t0 (wsW_row hq hc) ht hv hd (k H locs ls hl hP hS)
theorem g_aald (C : gC w p s m args c cc nL own) {n : Nat} {i : Int32} (q0 : Nat) (hq : isC q0 24 n) (hi : inb i n = true) (hd : decode cc pc = .ok (.aaload, 1)) (k : gG w p l e R s m args below meth c nL k0 n0 Q d lv (pc + 1) (.ref (w_r w (q0 + 1 + i.toNatClampNeg)) :: st)) : gG w p l e R s m args below meth c nL k0 n0 Q d lv pc (.int i :: .ref (w_r w q0) :: st) := by
  intro H locs ls hl hP hS
  have hin := inb_in hi
  have hlt : i.toNatClampNeg < n := Nat.not_le.mp fun q => hin (Or.inr q)
  exact W.aald (v := .ref (w_r w (q0 + 1 + i.toNatClampNeg))) (ty := .array .int) C.1 C.2.1 (hP q0 _ (wsW_row hq rfl)) ((C.2.2.2.2.2.1.2 4 _ rfl).1 n (fun j => va_rf (some (w_r w (q0 + 1 + j))))) rfl (fun q => by cases q) (by show ¬ (i < 0 ∨ (arrV _ _ _).slots.size ≤ _); rw [arrV_size]; exact hin) (by show (arrV _ _ _).slots[_]? = _; rw [arrV_read _ _ hlt]; rfl) rfl rfl hd (k H locs ls hl hP hS)
theorem g_aald3 (C : gC w p s m args c cc nL own) {n : Nat} {i : Int32} (q0 : Nat) (hq : isC q0 23 n) (hi : inb i n = true) (hd : decode cc pc = .ok (.aaload, 1)) (k : gG w p l e R s m args below meth c nL k0 n0 Q d lv (pc + 1) (.ref (w_r w (77 + 25 * i.toNatClampNeg)) :: st)) : gG w p l e R s m args below meth c nL k0 n0 Q d lv pc (.int i :: .ref (w_r w q0) :: st) :=
  fun H locs ls hl hP hS => va_aldq C.1 C.2.1 C.2.2.2.2.2.1 hP q0 3 (wsW_row hq rfl) rfl (inb_in hi) hd (k H locs ls hl hP hS)
/-- behind a call -/
theorem g_after {a : Array Value} {rest : List Value} {free : Addr → Prop} {d' : Dt} {ov : Option Value} {H : Heap} {locs : List Loc} {ls : Array Slot} (hr : va_Run p l e R s m args below meth c H locs k0 n0 0 0 (F0 m pc ls st) rest (gQ w d' ov a) (A_W w)) (hl : lv_has ls nL lv) (hS : va_S (A_W w) s.heap H locs) (kk : gG w p l e R s m args below meth c nL k0 n0 Q d' lv (pc + 3) (ov.toList ++ rest)) : W p l e R s m args below meth c H locs k0 n0 Q (F0 m pc ls st) := by
  intro T hT X
  obtain ⟨v, st₀, t, T', L, h0, X', hL, e1, e2, ⟨hv, hp, hz, hk⟩, stp⟩ := hr T hT X
  cases hv
  rw [h0] at hz hk
  obtain ⟨t2, a1, b1⟩ := kk T'.heap (locs ++ L) ls hl (by rw [e1]; exact hp)
    ⟨Nat.le_trans hS.1 (by rw [e1]; exact hz), fun q h1 h2 => by rw [e1, hk q (Nat.lt_of_lt_of_le h1 hS.1) h2]; exact hS.2.1 q h1 h2, fun q hq => by
      rcases List.mem_append.mp hq with h | h
      · exact hS.2.2 q h
      · exact hL q h⟩ T' rfl X'
  exact ⟨t2, stp t2 a1, b1⟩
theorem cat_le (v : Value) : v.category ≤ 2 := by
  cases v <;> exact Nat.le_of_ble_eq_true rfl
theorem rest_sum (rest : List Value) : (rest.map fun v => v.category).sum ≤ 2 * rest.length := by
  induction rest with
  | nil => exact Nat.le_refl _
  | cons a r ih =>
    rw [List.map_cons, List.sum_cons, List.length_cons]
    have := cat_le a
    omega
theorem g_callV (C : gC w p s m args c cc nL own) {ix ci maxL nA n n2 N : Nat} {y : MethodName} {bytes : ByteArray} {ret : Option FieldType} {As rest : List Value} {d' : Dt} {ov : Option Value} (q0 : Nat) (hq : isC q0 ci n) (V : vOK own ix ci y bytes maxL ret nA) {mcR msR : Nat} (hR : R = gRmX N mcR msR) (hN : Nat.ble (n2 + 1) N = true) (hM : gM w l y bytes maxL ret n2 (.ref (w_r w q0) :: As) d d' ov) (hA : As.length = nA) (hr : Nat.ble rest.length 4 = true) (hst : st = As.reverse ++ .ref (w_r w q0) :: rest) (hd : decode cc pc = .ok (.invokevirtual ix, 3)) (k : gG w p l e R s m args below meth c nL k0 n0 Q d' lv (pc + 3) (ov.toList ++ rest)) (hk0 : Nat.ble k0 mcR = true) (hn0 : Nat.ble n0 msR = true) : gG w p l e R s m args below meth c nL k0 n0 Q d lv pc st := by
  intro H locs ls hl hP hS
  obtain ⟨hY, hmx, hlk, hin, hsel, T, ty, NN, K⟩ := V
  have C' := C
  obtain ⟨hx, hb, hml, hown, hts, hK, hO, hB, hkw⟩ := C
  have hNN := Nat.le_of_ble_eq_true hN
  have hrr := Nat.le_of_ble_eq_true hr
  subst hst
  refine g_after (free := A_W w) (va_runV (As := As) (rest := rest) (b := w_r w q0) (C := y.cls) (Ts := wAll) (cc := cc) (nL := nL) ⟨hx, hb, hml, hown, hts⟩ hM (cwV nA hts ?_ rfl rfl rfl ⟨rfl, hY.2.2⟩ ⟨?_, ?_⟩) ⟨wI_blind, va_recv hK hP K.2.1 (wlen_ble hq K.1), fun U hU hW => ⟨rfl, wI_go hK hB hkw hP hS hU hW⟩⟩ rfl hA hl.1 rfl (lv_room (by have := rest_sum rest; omega)) hd ⟨by rw [hR]; exact Nat.le_of_ble_eq_true hk0, by rw [hR]; exact Nat.le_of_ble_eq_true hn0⟩) hl hS k
  · intro x hx
    have hg := good_call hY
    rcases List.mem_append.mp hx with h | h
    · have e4 : x ∈ wAll := by
        rcases List.mem_cons.mp h with rfl | h
        · exact hlk
        rcases List.mem_cons.mp h with rfl | h
        · exact hin
        rcases List.mem_cons.mp h with rfl | h
        · exact hsel
        rcases List.mem_cons.mp h with rfl | h
        · exact hY.2.1
        · cases h
      exact ⟨e4, good_of_word (wAll_good e4)⟩
    · exact hg x h
  · rw [hR]
    exact hNN
  · rw [hR]
    show 8 + (maxL + 11) + 40 * n2 ≤ 40 * N
    omega
theorem g_callS (C : gC w p s m args c cc nL own) {ix maxL nA n2 N : Nat} {y : MethodName} {bytes : ByteArray} {ret : Option FieldType} {As rest : List Value} {d' : Dt} {ov : Option Value} (V : sOK own ix y bytes maxL ret nA) {mcR msR : Nat} (hR : R = gRmX N mcR msR) (hN : Nat.ble (n2 + 1) N = true) (hM : gM w l y bytes maxL ret n2 As d d' ov) (hA : As.length = nA) (hr : Nat.ble rest.length 4 = true) (hst : st = As.reverse ++ rest) (hd : decode cc pc = .ok (.invokestatic ix, 3)) (k : gG w p l e R s m args below meth c nL k0 n0 Q d' lv (pc + 3) (ov.toList ++ rest)) (hk0 : Nat.ble k0 mcR = true) (hn0 : Nat.ble n0 msR = true) : gG w p l e R s m args below meth c nL k0 n0 Q d lv pc st := by
  intro H locs ls hl hP hS
  obtain ⟨hY, hmx, hlk, hin⟩ := V
  obtain ⟨hx, hb, hml, hown, hts, hK, hO, hB, hkw⟩ := C
  have hNN := Nat.le_of_ble_eq_true hN
  have hrr := Nat.le_of_ble_eq_true hr
  subst hst
  refine g_after (free := A_W w) (va_runS (As := As) (rest := rest) (Ts := wAll) (cc := cc) (nL := nL) ⟨hx, hb, hml, hown, hts⟩ hM (va_cwS nA hts ?_ rfl rfl rfl hY.2.2 ⟨?_, ?_⟩) ⟨wI_blind, fun U hU hW => ⟨rfl, wI_go hK hB hkw hP hS hU hW⟩⟩ rfl hA hl.1 rfl (lv_room (by have := rest_sum rest; omega)) hd ⟨by rw [hR]; exact Nat.le_of_ble_eq_true hk0, by rw [hR]; exact Nat.le_of_ble_eq_true hn0⟩) hl hS k
  · intro x hx
    have hg := good_call hY
    rcases List.mem_append.mp hx with h | h
    · have e4 : x ∈ wAll := by
        rcases List.mem_cons.mp h with rfl | h
        · exact hlk
        rcases List.mem_cons.mp h with rfl | h
        · exact hin
        rcases List.mem_cons.mp h with rfl | h
        · exact hY.2.1
        · cases h
      exact ⟨e4, good_of_word (wAll_good e4)⟩
    · exact hg x h
  · rw [hR]
    exact hNN
  · rw [hR]
    show 8 + (maxL + 11) + 40 * n2 ≤ 40 * N
    omega
/-- the end of a method -/
def gE (w : wT) (below : List Frame) (args : Array Value) (s : State) (d' : Dt) (ov : Option Value) : State → Prop := MQ below (gQ w d' ov) args s 0 0 (A_W w)
theorem g_iret (C : gC w p s m args c cc nL own) {ty : FieldType} {v : Int32} {d' : Dt} {ov : Option Value} (hr : meth.sig.returnType = some ty) (hlk : meth.locks = false) (hn : narrow ty (.int v) = .int v) (he : d = d') (hv : some (.int v) = ov) (hd : decode cc pc = .ok (.ireturn, 1)) : gG w p l e R s m args below meth c nL 0 0 (gE w below args s d' ov) d lv pc [.int v] := by
  subst he
  subst hv
  intro H locs ls hl hP hS
  exact W.zret C.1 C.2.1 hr hn (fun t ht hW => ⟨rfl, by rw [ht]; exact hP, hS.F ht⟩) hS.2.2 hd hlk
theorem g_vret (C : gC w p s m args c cc nL own) {d' : Dt} {ov : Option Value} (hr : meth.sig.returnType = none) (hlk : meth.locks = false) (he : d = d') (hv : none = ov) (hd : decode cc pc = .ok (.return_, 1)) : gG w p l e R s m args below meth c nL 0 0 (gE w below args s d' ov) d lv pc [] := by
  subst he
  subst hv
  intro H locs ls hl hP hS
  exact W.vret C.1 C.2.1 hr (fun t ht hW => ⟨rfl, by rw [ht]; exact hP, hS.F ht⟩) hS.2.2 hd hlk
end GR2
theorem gM_of {w : wT} {l : Launch} {y : MethodName} {cc : ByteArray} {maxL n : Nat} {ret : Option FieldType} {av : List Value} {d d' : Dt} {ov : Option Value} (hpl : plainName y.cls = true) (lv0 : List (Nat × Value)) (hlv : lv_args 0 av = lv0) (hlen : Nat.ble (lg_sl av).length maxL = true)
    (body : ∀ (p : Program) (e : Env) (R : Room) (s : State) (m : MethodId) (args : Array Value) (below : List Frame) (meth : Method) (c : Code), gC w p s m args c cc maxL y.cls → R = gRmX n 0 0 → meth.sig.returnType = ret → meth.locks = false → gG w p l e R s m args below meth c maxL 0 0 (gE w below args s d' ov) d lv0 0 []) (hO : okW w) : gM w l y cc maxL ret n av d d' ov := by
  refine Met.ofW (cc := cc) (maxL := maxL) (ret := ret) hpl rfl ?_
  intro p e s m args below meth c s₁ B hml hv
  obtain ⟨rfl, hP, hK, hB, hkw⟩ := hv
  have hts := atoms_spec (ws := Cond.code y cc maxL ret :: wAll) B.pre
  have hown : s.vm.findClass y.cls = some m.cls := findClass_of_methodNamed B.named
  have hl := lv_entry av (n := maxL) (Nat.le_of_ble_eq_true hlen)
  rw [lg_entry_eq]
  rw [hlv] at hl
  exact body p e _ s m _ below meth c ⟨B.exec, B.bytes, hml, hown, fun x hx => hts x (List.mem_cons_of_mem _ hx), hK, hO, hB, hkw⟩ rfl B.returns B.notSynchronized s.heap [] _ hl hP va_S.rf
/-! loops, guards, calls of the pure functions -/
def iter {S X : Type} : Nat → (S → Option (S ⊕ X)) → S → Option X
  | 0, _, _ => none
  | n + 1, step, s => match step s with
    | none => none
    | some (.inl s') => iter n step s'
    | some (.inr x) => some x
theorem iter_ind {S X : Type} {step : S → Option (S ⊕ X)} {G : S → Prop} {o : X} (body : ∀ s y, step s = some y → (∀ s', y = .inl s' → G s') → (∀ z, y = .inr z → z = o) → G s) : ∀ n s, iter n step s = some o → G s := by
  intro n
  induction n with
  | zero => intro s h; cases h
  | succ n ih =>
    intro s h
    unfold iter at h
    cases hy : step s with
    | none => rw [hy] at h; cases h
    | some y =>
      rw [hy] at h
      refine body s y hy (fun s' e => ?_) (fun z e => ?_)
      · subst e
        exact ih s' h
      · subst e
        exact Option.some.inj h
def gd {X : Type} (b : Bool) (k : Option X) : Option X := cond b k none
theorem gd_1 {X : Type} {b : Bool} {k : Option X} {y : X} (h : gd b k = some y) : b = true := by
  cases b with
  | true => rfl
  | false => cases h
theorem gd_2 {X : Type} {b : Bool} {k : Option X} {y : X} (h : gd b k = some y) : k = some y := by
  cases b with
  | true => exact h
  | false => cases h
theorem gd_t {X : Type} {k : Option X} : gd true k = k := rfl
def ob1 {A X : Type} (a : Option A) (k : A → Option X) : Option X := match a with
  | none => none
  | some r => k r
theorem ob1_1 {A X : Type} {a : Option A} {k : A → Option X} {y : X} (h : ob1 a k = some y) : ∃ r, a = some r ∧ k r = some y := by
  cases a with
  | none => cases h
  | some r => exact ⟨r, rfl, h⟩
theorem ob1_s {A X : Type} {a : A} {k : A → Option X} : ob1 (some a) k = k a := rfl
def ob2 {A B X : Type} (a : Option (A × B)) (k : A → B → Option X) : Option X := match a with
  | none => none
  | some r => k r.1 r.2
theorem ob2_1 {A B X : Type} {a : Option (A × B)} {k : A → B → Option X} {y : X} (h : ob2 a k = some y) : ∃ r q, a = some (r, q) ∧ k r q = some y := by
  cases a with
  | none => cases h
  | some r => exact ⟨r.1, r.2, rfl, h⟩
theorem ob2_s {A B X : Type} {a : A} {b : B} {k : A → B → Option X} : ob2 (some (a, b)) k = k a b := rfl
theorem it_t {c : Prop} [Decidable c] {X : Type} {a b o : X} (q : c) (h : (if c then a else b) = o) : a = o := by rwa [if_pos q] at h
theorem it_f {c : Prop} [Decidable c] {X : Type} {a b o : X} (q : ¬ c) (h : (if c then a else b) = o) : b = o := by rwa [if_neg q] at h
def fu : Nat := 5000
def ir {S T : Type} (o : Option T) : Option (S ⊕ T) := match o with
  | none => none
  | some z => some (.inr z)
theorem ir_2 {S T : Type} {o : Option T} {y : S ⊕ T} {t : T} (h : ir o = some y) (hx : ∀ z, y = .inr z → z = t) : o = some t := by
  cases o with
  | none => cases h
  | some z =>
    rw [hx z (Option.some.inj h).symm]
theorem ir_s {S T : Type} {z : T} : ir (S := S) (some z) = some (.inr z) := rfl
theorem wA {x : Cond} (i : Nat) (h : lw_tbl[i]? = some x) (g : goodWord x = true) : x ∈ wAll := wAll_in (List.mem_of_getElem? h) g
theorem isC_row8 {i : Int32} (h : inb i 8 = true) : isC (8 + i.toNatClampNeg) 20 8 := by
  unfold inb at h
  rw [Bool.and_eq_true, decide_eq_true_eq, decide_eq_true_eq] at h
  have : ∀ n, n < 8 → isC (8 + n) 20 8 := by unfold isC; decide +kernel
  exact this _ h.2
theorem isC_rowS {a : Nat} {i : Int32} (hA : stB a) (h : inb i 8 = true) : isC (a + 5 + 1 + i.toNatClampNeg) 20 8 := by
  unfold inb at h
  rw [Bool.and_eq_true, decide_eq_true_eq, decide_eq_true_eq] at h
  have h1 := hA (6 + i.toNatClampNeg) (by omega)
  have h2 : ∀ n, n < 8 → shS (6 + n) = (20, 8) := by decide +kernel
  rw [h2 _ h.2] at h1
  rwa [show a + 5 + 1 + i.toNatClampNeg = a + (6 + i.toNatClampNeg) by omega]
theorem stB_of {b : Nat} (h : ∀ o, o < 25 → b + o < 302 ∧ sh (b + o) = shS o) : stB b := by
  intro o ho
  refine ⟨(h o ho).1, ?_⟩
  rw [(h o ho).2]
theorem stB_2 : stB 2 := stB_of (by decide +kernel)
theorem stB_27 : stB 27 := stB_of (by decide +kernel)
theorem stB_52 : stB 52 := stB_of (by decide +kernel)
theorem stB_h {i : Int32} (h : inb i 8 = true) : stB (77 + 25 * i.toNatClampNeg) := by
  unfold inb at h
  rw [Bool.and_eq_true, decide_eq_true_eq, decide_eq_true_eq] at h
  have h2 : ∀ n, n < 8 → ∀ o, o < 25 → 77 + 25 * n + o < 302 ∧ sh (77 + 25 * n + o) = shS o := by decide +kernel
  exact stB_of (h2 _ h.2)
section GR3
variable {w : wT} {p : Program} {l : Launch} {e : Env} {R : Room} {s : State} {m : MethodId} {args : Array Value} {below : List Frame} {meth : Method} {c : Code} {cc : ByteArray} {nL k0 n0 : Nat} {own : String} {Q : State → Prop} {d : Dt} {lv : List (Nat × Value)} {pc : Nat} {st : List Value}
theorem g_callVi (C : gC w p s m args c cc nL own) {ix ci maxL nA n n2 N : Nat} {y : MethodName} {bytes : ByteArray} {ret : Option FieldType} {As rest : List Value} {d' : Dt} {r : Int32} (q0 : Nat) (hq : isC q0 ci n) (V : vOK own ix ci y bytes maxL ret nA) {mcR msR : Nat} (hR : R = gRmX N mcR msR) (hN : Nat.ble (n2 + 1) N = true) (hM : gM w l y bytes maxL ret n2 (.ref (w_r w q0) :: As) d d' (some (.int r))) (hA : As.length = nA) (hr : Nat.ble rest.length 4 = true) (hst : st = As.reverse ++ .ref (w_r w q0) :: rest) (hd : decode cc pc = .ok (.invokevirtual ix, 3)) (hk0 : Nat.ble k0 mcR = true) (hn0 : Nat.ble n0 msR = true) (k : gG w p l e R s m args below meth c nL k0 n0 Q d' lv (pc + 3) (.int r :: rest)) : gG w p l e R s m args below meth c nL k0 n0 Q d lv pc st := g_callV C q0 hq V hR hN hM hA hr hst hd k hk0 hn0
theorem g_callVv (C : gC w p s m args c cc nL own) {ix ci maxL nA n n2 N : Nat} {y : MethodName} {bytes : ByteArray} {ret : Option FieldType} {As rest : List Value} {d' : Dt} (q0 : Nat) (hq : isC q0 ci n) (V : vOK own ix ci y bytes maxL ret nA) {mcR msR : Nat} (hR : R = gRmX N mcR msR) (hN : Nat.ble (n2 + 1) N = true) (hM : gM w l y bytes maxL ret n2 (.ref (w_r w q0) :: As) d d' none) (hA : As.length = nA) (hr : Nat.ble rest.length 4 = true) (hst : st = As.reverse ++ .ref (w_r w q0) :: rest) (hd : decode cc pc = .ok (.invokevirtual ix, 3)) (hk0 : Nat.ble k0 mcR = true) (hn0 : Nat.ble n0 msR = true) (k : gG w p l e R s m args below meth c nL k0 n0 Q d' lv (pc + 3) rest) : gG w p l e R s m args below meth c nL k0 n0 Q d lv pc st := g_callV C q0 hq V hR hN hM hA hr hst hd k hk0 hn0
theorem g_callSi (C : gC w p s m args c cc nL own) {ix maxL nA n2 N : Nat} {y : MethodName} {bytes : ByteArray} {ret : Option FieldType} {As rest : List Value} {d' : Dt} {r : Int32} (V : sOK own ix y bytes maxL ret nA) {mcR msR : Nat} (hR : R = gRmX N mcR msR) (hN : Nat.ble (n2 + 1) N = true) (hM : gM w l y bytes maxL ret n2 As d d' (some (.int r))) (hA : As.length = nA) (hr : Nat.ble rest.length 4 = true) (hst : st = As.reverse ++ rest) (hd : decode cc pc = .ok (.invokestatic ix, 3)) (hk0 : Nat.ble k0 mcR = true) (hn0 : Nat.ble n0 msR = true) (k : gG w p l e R s m args below meth c nL k0 n0 Q d' lv (pc + 3) (.int r :: rest)) : gG w p l e R s m args below meth c nL k0 n0 Q d lv pc st := g_callS C V hR hN hM hA hr hst hd k hk0 hn0
theorem g_callSv (C : gC w p s m args c cc nL own) {ix maxL nA n2 N : Nat} {y : MethodName} {bytes : ByteArray} {ret : Option FieldType} {As rest : List Value} {d' : Dt} (V : sOK own ix y bytes maxL ret nA) {mcR msR : Nat} (hR : R = gRmX N mcR msR) (hN : Nat.ble (n2 + 1) N = true) (hM : gM w l y bytes maxL ret n2 As d d' none) (hA : As.length = nA) (hr : Nat.ble rest.length 4 = true) (hst : st = As.reverse ++ rest) (hd : decode cc pc = .ok (.invokestatic ix, 3)) (hk0 : Nat.ble k0 mcR = true) (hn0 : Nat.ble n0 msR = true) (k : gG w p l e R s m args below meth c nL k0 n0 Q d' lv (pc + 3) rest) : gG w p l e R s m args below meth c nL k0 n0 Q d lv pc st := g_callS C V hR hN hM hA hr hst hd k hk0 hn0
theorem g_ldc (C : gC w p s m args c cc nL own) {ix : Nat} {v : Int32} (hk : Cond.constant own ix v ∈ wAll) (hd : decode cc pc = .ok (.ldc ix, 2)) (k : gG w p l e R s m args below meth c nL k0 n0 Q d lv (pc + 2) (.int v :: st)) : gG w p l e R s m args below meth c nL k0 n0 Q d lv pc st :=
  fun H locs ls hl hP hS => lv_ldc C.1 C.2.1 C.2.2.2.1 (C.2.2.2.2.1 _ hk) hd (k H locs ls hl hP hS)
theorem g_tabOut (C : gC w p s m args c cc nL own) {dflt lo hi : Int} {offs : Array Int} {len : Nat} {x : Int32} {tgt : Nat} (hd : decode cc pc = .ok (.tableswitch dflt lo hi offs, len)) (h : x.toInt < lo ∨ hi < x.toInt) (ht : (pc : Int) + dflt = (tgt : Int)) (k : gG w p l e R s m args below meth c nL k0 n0 Q d lv tgt st) : gG w p l e R s m args below meth c nL k0 n0 Q d lv pc (.int x :: st) :=
  fun H locs ls hl hP hS => lv_tableOut C.1 C.2.1 hd h ht (k H locs ls hl hP hS)
theorem g_tabIn (C : gC w p s m args c cc nL own) {dflt lo hi : Int} {offs : Array Int} {len : Nat} {x v : Int32} {off : Int} {tgt : Nat} (hd : decode cc pc = .ok (.tableswitch dflt lo hi offs, len)) (hx : x = v) (h1 : ¬ v.toInt < lo) (h2 : ¬ hi < v.toInt) (ho : offs[(v.toInt - lo).toNat]? = some off) (ht : (pc : Int) + off = (tgt : Int)) (k : gG w p l e R s m args below meth c nL k0 n0 Q d lv tgt st) : gG w p l e R s m args below meth c nL k0 n0 Q d lv pc (.int x :: st) := by
  subst hx
  exact fun H locs ls hl hP hS => lv_tableIn C.1 C.2.1 hd h1 h2 ho ht (k H locs ls hl hP hS)
end GR3
theorem ik_0 : ∀ x ∈ u_ws RJ0 TJ0 2, x ∈ lw_tbl := by decide +kernel
theorem gk_0 : ∀ x ∈ u_ws RJ0 TJ0 2, goodWord x = true := by decide +kernel
theorem ck_0 : cOK 0 RJ0 TJ0 tyJ0 2 := ⟨rfl, rfl, ik_0, fun x h => wAll_in (ik_0 x h) (gk_0 x h), tyJ0_ok, nmJ0⟩
theorem ik_2 : ∀ x ∈ u_ws RX1 TX1 7, x ∈ lw_tbl := by decide +kernel
theorem gk_2 : ∀ x ∈ u_ws RX1 TX1 7, goodWord x = true := by decide +kernel
theorem ck_2 : cOK 2 RX1 TX1 tyX1 7 := ⟨rfl, rfl, ik_2, fun x h => wAll_in (ik_2 x h) (gk_2 x h), tyX1_ok, nmX1⟩
theorem ik_3 : ∀ x ∈ u_ws RX2 TX2 5, x ∈ lw_tbl := by decide +kernel
theorem gk_3 : ∀ x ∈ u_ws RX2 TX2 5, goodWord x = true := by decide +kernel
theorem ck_3 : cOK 3 RX2 TX2 tyX2 5 := ⟨rfl, rfl, ik_3, fun x h => wAll_in (ik_3 x h) (gk_3 x h), tyX2_ok, nmX2⟩
theorem ik_4 : ∀ x ∈ u_ws RX3 TX3 7, x ∈ lw_tbl := by decide +kernel
theorem gk_4 : ∀ x ∈ u_ws RX3 TX3 7, goodWord x = true := by decide +kernel
theorem ck_4 : cOK 4 RX3 TX3 tyX3 7 := ⟨rfl, rfl, ik_4, fun x h => wAll_in (ik_4 x h) (gk_4 x h), tyX3_ok, nmX3⟩
theorem ik_5 : ∀ x ∈ u_ws RX5 TX5 5, x ∈ lw_tbl := by decide +kernel
theorem gk_5 : ∀ x ∈ u_ws RX5 TX5 5, goodWord x = true := by decide +kernel
theorem ck_5 : cOK 5 RX5 TX5 tyX5 5 := ⟨rfl, rfl, ik_5, fun x h => wAll_in (ik_5 x h) (gk_5 x h), tyX5_ok, nmX5⟩
theorem ik_6 : ∀ x ∈ u_ws RX6 TX6 2, x ∈ lw_tbl := by decide +kernel
theorem gk_6 : ∀ x ∈ u_ws RX6 TX6 2, goodWord x = true := by decide +kernel
theorem ck_6 : cOK 6 RX6 TX6 tyX6 2 := ⟨rfl, rfl, ik_6, fun x h => wAll_in (ik_6 x h) (gk_6 x h), tyX6_ok, nmX6⟩
theorem ik_7 : ∀ x ∈ u_ws RX7 TX7 5, x ∈ lw_tbl := by decide +kernel
theorem gk_7 : ∀ x ∈ u_ws RX7 TX7 5, goodWord x = true := by decide +kernel
theorem ck_7 : cOK 7 RX7 TX7 tyX7 5 := ⟨rfl, rfl, ik_7, fun x h => wAll_in (ik_7 x h) (gk_7 x h), tyX7_ok, nmX7⟩
theorem ik_8 : ∀ x ∈ u_ws RX8 TX8 9, x ∈ lw_tbl := by decide +kernel
theorem gk_8 : ∀ x ∈ u_ws RX8 TX8 9, goodWord x = true := by decide +kernel
theorem ck_8 : cOK 8 RX8 TX8 tyX8 9 := ⟨rfl, rfl, ik_8, fun x h => wAll_in (ik_8 x h) (gk_8 x h), tyX8_ok, nmX8⟩
theorem ik_9 : ∀ x ∈ u_ws RX9 TX9 4, x ∈ lw_tbl := by decide +kernel
theorem gk_9 : ∀ x ∈ u_ws RX9 TX9 4, goodWord x = true := by decide +kernel
theorem ck_9 : cOK 9 RX9 TX9 tyX9 4 := ⟨rfl, rfl, ik_9, fun x h => wAll_in (ik_9 x h) (gk_9 x h), tyX9_ok, nmX9⟩
theorem ik_10 : ∀ x ∈ u_ws RX10 TX10 2, x ∈ lw_tbl := by decide +kernel
theorem gk_10 : ∀ x ∈ u_ws RX10 TX10 2, goodWord x = true := by decide +kernel
theorem ck_10 : cOK 10 RX10 TX10 tyX10 2 := ⟨rfl, rfl, ik_10, fun x h => wAll_in (ik_10 x h) (gk_10 x h), tyX10_ok, nmX10⟩
theorem ik_11 : ∀ x ∈ u_ws RX11 TX11 14, x ∈ lw_tbl := by decide +kernel
theorem gk_11 : ∀ x ∈ u_ws RX11 TX11 14, goodWord x = true := by decide +kernel
theorem ck_11 : cOK 11 RX11 TX11 tyX11 14 := ⟨rfl, rfl, ik_11, fun x h => wAll_in (ik_11 x h) (gk_11 x h), tyX11_ok, nmX11⟩
theorem ik_12 : ∀ x ∈ u_ws RX12 TX12 17, x ∈ lw_tbl := by decide +kernel
theorem gk_12 : ∀ x ∈ u_ws RX12 TX12 17, goodWord x = true := by decide +kernel
theorem ck_12 : cOK 12 RX12 TX12 tyX12 17 := ⟨rfl, rfl, ik_12, fun x h => wAll_in (ik_12 x h) (gk_12 x h), tyX12_ok, nmX12⟩
