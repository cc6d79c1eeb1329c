/-! 09x: making: the constructors over a list of cells -/
def arK (U : State) : Prop := va_AOA .int U ∧ va_AO "LanternCourt$State" U
theorem arK_vm {t : FieldType} {u U : State} (h : u.vm = U.vm) : (Cond.arrayOver t).before #[] u = (Cond.arrayOver t).before #[] U := by
  unfold Cond.before Cond.holds
  simp only [Cond.value]
  rw [h]
theorem arK_go {u U : State} (hW : u.vm.Alike U.vm) (h : arK u) : arK U := ⟨by
  have e1 := Cond.arrayOver_setVmC (args := #[]) (s := u) hW (.array .int)
  have e2 : (Cond.arrayOver (.array .int)).before #[] (u.setVm U.vm) = (Cond.arrayOver (.array .int)).before #[] U := arK_vm rfl
  exact e2.symm.trans (e1.trans h.1), va_AO.moved hW h.2⟩
def gCk (w : wT) (p : Program) (s : State) (m : MethodId) (args : Array Value) (c : Code) (cc : ByteArray) (nL : Nat) (own : String) : Prop :=
  p.tables.exec = Jvm.exec ∧ c.code = cc ∧ c.maxLocals = nL ∧ s.vm.findClass own = some m.cls ∧ (∀ x ∈ wAll, x.before args s = true) ∧ va_K (w_G w) vwQ (tyW w) s ∧ w_B w ≤ s.heap.size ∧ kW w s s.heap ∧ arK s
def gKk (w : wT) (p : Program) (l : Launch) (e : Env) (R : Room) (s : State) (m : MethodId) (args : Array Value) (below : List Frame) (meth : Method) (c : Code) (nL k n : Nat) (Q : State → Prop) (A : Nat → Prop) (ws : va_W) (lv : List (Nat × Value)) (pc : Nat) (st : List Value) : Prop :=
  ∀ (H : Heap) (locs : List Loc) (ls : Array Slot), lv_has ls nL lv → va_P (w_G w) vwQ ws H → va_D A ws → va_S A s.heap H locs → W p l e R s m args below meth c H locs k n Q (F0 m pc ls st)
def gNI (w : wT) (h sz : Nat) (fr : va_E) (U : State) : Prop := U.heap.size = sz ∧ va_P (w_G w) vwQ [(h, fr)] U.heap ∧ va_K (w_G w) vwQ (tyW w) U ∧ kW w U U.heap ∧ arK U ∧ w_B w ≤ h ∧ w_B w ≤ sz
def gNO (w : wT) (h sz : Nat) (fr : va_E) (u : va_W) (t : State) : Prop := va_P (w_G w) vwQ u t.heap ∧ va_D (va_A [(h, fr)] sz) u
/-- a constructor's contract: from a fresh cell at h it makes the cells u, of the shape Sh -/
def gN (w : wT) (l : Launch) (y : MethodName) (cc : ByteArray) (maxL n mc ms : Nat) (fr : va_E) (Sh : Nat → va_W → Prop) : Prop :=
  ∀ h sz : Nat, Met l y (Cond.code y cc maxL none :: wAll) (gRmX n mc ms) (va_Pc [.ref h] (gNI w h sz fr)) (va_Qv (Sh h) (gNO w h sz fr) (va_A [(h, fr)] sz)) mc ms (va_A [(h, fr)] sz)
def gNE (w : wT) (below : List Frame) (args : Array Value) (s : State) (mc ms h : Nat) (fr : va_E) (Sh : Nat → va_W → Prop) : State → Prop := MQ below (va_Qv (Sh h) (gNO w h s.heap.size fr) (va_A [(h, fr)] s.heap.size)) args s mc ms (va_A [(h, fr)] s.heap.size)
section GKK
variable {w : wT} {p : Program} {l : Launch} {e : Env} {R : Room} {s : State} {m : MethodId} {args : Array Value} {below : List Frame} {meth : Method} {c : Code} {cc : ByteArray} {nL k0 n0 : Nat} {own : String} {Q : State → Prop} {A : Nat → Prop} {ws : va_W} {lv : List (Nat × Value)} {pc : Nat} {st : List Value}
theorem k_aload_n (C : gCk w p s m args c cc nL own) {i : Fin 4} {x : Nat} (hd : decode cc pc = .ok (.aload_n i, 1)) (j : Nat) (hj : lv[j]? = some ((i : Nat), .ref x)) (k : gKk w p l e R s m args below meth c nL k0 n0 Q A ws lv (pc + 1) (.ref x :: st)) : gKk w p l e R s m args below meth c nL k0 n0 Q A ws lv pc st :=
  fun H locs ls hl hP hD hS => lv_aload_n C.1 C.2.1 hd rfl (lv_at hl j hj) (k H locs ls hl hP hD hS)
theorem k_iconst (C : gCk w p s m args c cc nL own) {n : Int} {v : Int32} (hd : decode cc pc = .ok (.iconst n, 1)) (hv : Int32.ofInt n = v) (k : gKk w p l e R s m args below meth c nL k0 n0 Q A ws lv (pc + 1) (.int v :: st)) : gKk w p l e R s m args below meth c nL k0 n0 Q A ws lv pc st :=
  fun H locs ls hl hP hD hS => lv_iconst C.1 C.2.1 hd hv (k H locs ls hl hP hD hS)
theorem k_bipush (C : gCk w p s m args c cc nL own) {n : Int} {v : Int32} (hd : decode cc pc = .ok (.bipush n, 2)) (hv : (Int8.ofInt n).toInt32 = v) (k : gKk w p l e R s m args below meth c nL k0 n0 Q A ws lv (pc + 2) (.int v :: st)) : gKk w p l e R s m args below meth c nL k0 n0 Q A ws lv pc st :=
  fun H locs ls hl hP hD hS => lv_bipush C.1 C.2.1 hd hv (k H locs ls hl hP hD hS)
theorem k_sipush (C : gCk w p s m args c cc nL own) {n : Int} {v : Int32} (hd : decode cc pc = .ok (.sipush n, 3)) (hv : (Int16.ofInt n).toInt32 = v) (k : gKk w p l e R s m args below meth c nL k0 n0 Q A ws lv (pc + 3) (.int v :: st)) : gKk w p l e R s m args below meth c nL k0 n0 Q A ws lv pc st :=
  fun H locs ls hl hP hD hS => lv_sipush C.1 C.2.1 hd hv (k H locs ls hl hP hD hS)
theorem k_dup (C : gCk w p s m args c cc nL own) {x : Nat} (hd : decode cc pc = .ok (.dup, 1)) (k : gKk w p l e R s m args below meth c nL k0 n0 Q A ws lv (pc + 1) (.ref x :: .ref x :: st)) : gKk w p l e R s m args below meth c nL k0 n0 Q A ws lv pc (.ref x :: st) :=
  fun H locs ls hl hP hD hS => lv_dup C.1 C.2.1 hd rfl (k H locs ls hl hP hD hS)
theorem k_objInit (C : gCk w p s m args c cc nL own) {ix mc ms N x : Nat} (hR : R = gRmX (N + 1) mc ms) (hl : Cond.methodLink own ix Lib.objectInit ∈ wAll) (hi : Cond.instanceMethod Lib.objectInit ∈ wAll) (hcd : Cond.code Lib.objectInit ⟨#[0xb1]⟩ 1 none ∈ wAll) (hd : decode cc pc = .ok (.invokespecial ix, 3)) (k : gKk w p l e R s m args below meth c nL k0 n0 Q A ws lv (pc + 3) []) : gKk w p l e R s m args below meth c nL k0 n0 Q A ws lv pc [.ref x] := by
  intro H locs ls hlv hP hD hS
  refine W.objInit C.1 C.2.1 C.2.2.2.1 (C.2.2.2.2.1 _ hl) (C.2.2.2.2.1 _ hi) (C.2.2.2.2.1 _ hcd) rfl (by rw [C.2.2.1]; exact hlv.1) rfl hd (by rw [hR]; exact Nat.le_add_left 1 N) (by
    rw [hR]
    show 0 + 0 + 12 ≤ 40 * (N + 1)
    omega) ?_
  exact k H locs ls hlv hP hD hS
theorem k_newa (C : gCk w p s m args c cc nL own) (hA : ∀ q, s.heap.size ≤ q → A q) {atype : ArrayType} {ty : FieldType} (ci t0 : Nat) (hty : newarray.typeOf atype = ty) (harr : Cond.arrayClass (newarray.typeOf atype) ∈ wAll) (ht : (tyW w)[t0]? = some (w_c w ci, ty)) (hpr : ∀ (U : State) (cA : ClassId), va_RA U cA ty → U.vm.findClass ("[" ++ ty.toString) = some cA) {n : Int32} (N' : Nat) {a0 : vp_A} (ha : ∀ cA : ClassId, vp_cell cA a0 = arrV cA N' (fun _ => defaultValue ty)) (hn : ¬ n < 0) (hN : n.toNatClampNeg = N') (hby : Nat.ble (N' * componentBytes ty) 536870912 = true) {NF mc ms : Nat} (hR : R = gRmX NF mc ms) (hk : Nat.ble (k0 + 1) mc = true) (hs : Nat.ble (n0 + N') ms = true) (hd : decode cc pc = .ok (.newarray atype, 2)) (k : ∀ q : Nat, gKk w p l e R s m args below meth c nL (k0 + 1) (n0 + N') Q A (ws ++ [(q, .inl (w_c w ci, a0))]) lv (pc + 2) (.ref q :: st)) : gKk w p l e R s m args below meth c nL k0 n0 Q A ws lv pc (.int n :: st) := by
  intro H locs ls hlv hP hD hS
  refine va_newa C.1 C.2.1 (C.2.2.2.2.1 _ harr) hty C.2.2.2.2.2.1 hP hD hS hA ha hn hN (Nat.le_of_ble_eq_true hby) (by rw [hR]; exact Nat.le_of_ble_eq_true hk) (by rw [hR]; exact Nat.le_of_ble_eq_true hs) hd (fun q cA H1 hK1 hP1 hD1 hS1 => ?_)
  have h1 := hpr s cA (hK1.2 (tyW w).length (cA, ty) (by rw [List.getElem?_append_right (Nat.le_refl _), Nat.sub_self]; rfl)).2
  have h2 := hpr s (w_c w ci) (C.2.2.2.2.2.1.2 t0 _ ht).2
  have e1 : cA = w_c w ci := Option.some.inj (h1.symm.trans h2)
  subst e1
  exact k q H1 locs ls hlv hP1 hD1 hS1
theorem k_new (C : gCk w p s m args c cc nL own) (hA : ∀ q, s.heap.size ≤ q → A q) {ix ci N : Nat} {Cn : String} {T : u_T} {ty : Nat → FieldType} (K : cOK ci Cn T ty N) (hcl : Cond.classLink own ix Cn ∈ wAll) (hin : Cond.instantiable Cn N ∈ wAll) (hini : Cond.initialized Cn ∈ wAll) {fs : List Value} (hfs : ∀ j, j < N → defaultValue (ty j) = vp_V fs j) {NF mc ms : Nat} (hR : R = gRmX NF mc ms) (hk : Nat.ble (k0 + 1) mc = true) (hs : Nat.ble (n0 + N) ms = true) (hd : decode cc pc = .ok (.new ix, 3)) (k : ∀ q : Nat, gKk w p l e R s m args below meth c nL (k0 + 1) (n0 + N) Q A (ws ++ [(q, .inr (ci, fs))]) lv (pc + 3) (.ref q :: st)) : gKk w p l e R s m args below meth c nL k0 n0 Q A ws lv pc st := by
  intro H locs ls hlv hP hD hS
  refine va_new C.1 C.2.1 C.2.2.2.2.1 K.2.2.2.1 ty K.2.2.2.2.1 C.2.2.2.1 (C.2.2.2.2.1 _ hcl) (C.2.2.2.2.1 _ hin) (C.2.2.2.2.1 _ hini) C.2.2.2.2.2.1 hP hD hS hA K.2.1 hfs (by rw [hR]; exact Nat.le_of_ble_eq_true hk) (by rw [hR]; exact Nat.le_of_ble_eq_true hs) hd (fun q H1 hP1 hD1 hS1 => ?_)
  exact k q H1 locs ls hlv hP1 hD1 hS1
theorem k_putF (C : gCk w p s m args c cc nL own) (hmn : meth.name = "<init>") {ix ci N a : Nat} {Cn : String} {T : u_T} {ty : Nat → FieldType} (K : cOK ci Cn T ty N) (q0 : Nat) {fs : List Value} (he : ws[q0]? = some (a, .inr (ci, fs))) (j : Nat) (hj : j < N) (hlk : Cond.fieldLink own ix (T j).1 (T j).2.1 (T j).2.2.1 ∈ wAll) (hfin : (T j).2.2.2 = true) (hdecl : (T j).1 = own) {fty : FieldType} {v : Value} (hpd : parseFieldDescriptor (T j).2.2.1 = some fty) (hn : narrow fty v = v) (hfit : fits fty v = true) (hlen : j < fs.length) (ws' : va_W) (hws : ws.set q0 (a, .inr (ci, fs.set j v)) = ws') (hd : decode cc pc = .ok (.putfield ix, 3)) (k : gKk w p l e R s m args below meth c nL k0 n0 Q A ws' lv (pc + 3) st) : gKk w p l e R s m args below meth c nL k0 n0 Q A ws lv pc (v :: .ref a :: st) := by
  intro H locs ls hlv hP hD hS
  subst hws
  exact va_putF C.1 C.2.1 C.2.2.2.2.1 K.2.2.2.1 ty K.2.2.2.2.1 K.2.2.2.2.2 C.2.2.2.1 C.2.2.2.2.2.1 hP hD hS q0 he K.2.1 j hj (C.2.2.2.2.1 _ hlk) (fun _ h => h) hfin hmn hdecl hpd hn hfit hlen hd (fun H1 locs1 hP1 hD1 hS1 => k H1 locs1 ls hlv hP1 hD1 hS1)
theorem k_put (C : gCk w p s m args c cc nL own) {ix ci N a : Nat} {Cn : String} {T : u_T} {ty : Nat → FieldType} (K : cOK ci Cn T ty N) (q0 : Nat) {fs : List Value} (he : ws[q0]? = some (a, .inr (ci, fs))) (j : Nat) (hj : j < N) (hlk : Cond.fieldLink own ix (T j).1 (T j).2.1 (T j).2.2.1 ∈ wAll) (hfin : (T j).2.2.2 = false) {fty : FieldType} {v : Value} (hpd : parseFieldDescriptor (T j).2.2.1 = some fty) (hn : narrow fty v = v) (hfit : fits fty v = true) (hlen : j < fs.length) (ws' : va_W) (hws : ws.set q0 (a, .inr (ci, fs.set j v)) = ws') (hd : decode cc pc = .ok (.putfield ix, 3)) (k : gKk w p l e R s m args below meth c nL k0 n0 Q A ws' lv (pc + 3) st) : gKk w p l e R s m args below meth c nL k0 n0 Q A ws lv pc (v :: .ref a :: st) := by
  intro H locs ls hlv hP hD hS
  subst hws
  exact va_put C.1 C.2.1 C.2.2.2.2.1 K.2.2.2.1 ty K.2.2.2.2.1 K.2.2.2.2.2 C.2.2.2.1 C.2.2.2.2.2.1 hP hD hS q0 he K.2.1 j hj (C.2.2.2.2.1 _ hlk) (fun _ h => h) hfin hpd hn hfit hlen hd (fun H1 locs1 hP1 hD1 hS1 => k H1 locs1 ls hlv hP1 hD1 hS1)
theorem k_vret (C : gCk w p s m args c cc nL own) {h mc ms : Nat} {fr : va_E} {Sh : Nat → va_W → Prop} (hr : meth.sig.returnType = none) (hlk : meth.locks = false) (hk : Nat.ble k0 mc = true) (hn : Nat.ble n0 ms = true) (hSh : Sh h ws) (hd : decode cc pc = .ok (.return_, 1)) : gKk w p l e R s m args below meth c nL k0 n0 (gNE w below args s mc ms h fr Sh) (va_A [(h, fr)] s.heap.size) ws lv pc [] := by
  intro H locs ls hlv hP hD hS
  exact W.widen (Nat.le_of_ble_eq_true hk) (Nat.le_of_ble_eq_true hn) (W.vret C.1 C.2.1 hr (fun t ht hW => ⟨⟨ws, rfl, hSh, by rw [ht]; exact hP, hD⟩, hS.F ht⟩) hS.2.2 hd hlk)
theorem gNI_blind {h sz : Nat} {fr : va_E} : FrameBlind (va_Pc [.ref h] (gNI w h sz fr)) := by
  intro a U g mk q
  obtain ⟨q0, q1, q2, q3, q4, q5, q6, q7⟩ := q
  exact ⟨q0, q1, q2, va_K.moved (u := U) (U := U.calling g mk a) (Vm.Alike.refl U.vm) q3, kW_go (u := U) (U := U.calling g mk a) (State.WarmedH.refl U) (fun _ _ _ => rfl) q4, arK_go (u := U) (U := U.calling g mk a) (Vm.Alike.refl U.vm) q5, q6, q7⟩
/-- what a constructor made comes behind the cells that were there -/
theorem k_joinP {q : Nat} {fr : va_E} {u : va_W} {H H1 : Heap} (hP : va_P (w_G w) vwQ (ws ++ [(q, fr)]) H) (hD : va_D A (ws ++ [(q, fr)])) (hA : ∀ q, H.size ≤ q → A q) (hk : ∀ q' : Nat, q' < H.size → ¬ va_A [(q, fr)] H.size q' → H1[q']? = H[q']?) (hP1 : va_P (w_G w) vwQ u H1) (hD1 : va_D (va_A [(q, fr)] H.size) u) : va_P (w_G w) vwQ (ws ++ u) H1 ∧ va_D A (ws ++ u) := by
  have hq : (ws ++ [(q, fr)])[ws.length]? = some (q, fr) := by rw [List.getElem?_append_right (Nat.le_refl _), Nat.sub_self]; rfl
  have hAq : A q := hD.2 _ _ hq
  have hold : ∀ (i : Nat) (x : Nat × va_E), ws[i]? = some x → (ws ++ [(q, fr)])[i]? = some x ∧ i < ws.length := fun i x hx => by
    have hi : i < ws.length := (List.getElem?_eq_some_iff.mp hx).1
    exact ⟨by rw [List.getElem?_append_left hi]; exact hx, hi⟩
  have hapart : ∀ (i : Nat) (x : Nat × va_E), ws[i]? = some x → ¬ va_A [(q, fr)] H.size x.1 := by
    intro i x hx hva
    obtain ⟨h1, h2⟩ := hold i x hx
    rcases hva with ⟨j, e9, hj⟩ | hsz
    · have hj0 : j = 0 := by
        cases j with
        | zero => rfl
        | succ j => simp at hj
      subst hj0
      have h3 : q = x.1 := by
        have := Option.some.inj hj
        exact congrArg Prod.fst this
      have := hD.1 i ws.length x (q, fr) h1 hq h3.symm
      omega
    · have := (hP i x h1).lt
      omega
  have hsub : ∀ q' : Nat, va_A [(q, fr)] H.size q' → A q' := by
    intro q' h
    rcases h with ⟨j, e9, hj⟩ | hsz
    · cases j with
      | zero =>
        have h9 : q = q' := congrArg Prod.fst (Option.some.inj hj)
        rw [← h9]
        exact hAq
      | succ j => simp at hj
    · exact hA _ hsz
  have hPw : va_P (w_G w) vwQ ws H := fun i x hx => hP i x (hold i x hx).1
  refine ⟨(hPw.kept (fun i x hx => hk x.1 ((hPw i x hx).lt) (hapart i x hx))).app hP1, ?_, ?_⟩
  · intro i j x z hx hz hxz
    by_cases hi : i < ws.length
    · rw [List.getElem?_append_left hi] at hx
      by_cases hj : j < ws.length
      · rw [List.getElem?_append_left hj] at hz
        exact hD.1 i j x z (hold i x hx).1 (hold j z hz).1 hxz
      · rw [List.getElem?_append_right (Nat.not_lt.mp hj)] at hz
        exact absurd (by rw [hxz]; exact hD1.2 _ _ hz) (hapart i x hx)
    · rw [List.getElem?_append_right (Nat.not_lt.mp hi)] at hx
      by_cases hj : j < ws.length
      · rw [List.getElem?_append_left hj] at hz
        exact absurd (by rw [← hxz]; exact hD1.2 _ _ hx) (hapart j z hz)
      · rw [List.getElem?_append_right (Nat.not_lt.mp hj)] at hz
        have := hD1.1 _ _ x z hx hz hxz
        omega
  · intro i x hx
    by_cases hi : i < ws.length
    · rw [List.getElem?_append_left hi] at hx
      exact hD.2 i x (hold i x hx).1
    · rw [List.getElem?_append_right (Nat.not_lt.mp hi)] at hx
      exact hsub _ (hD1.2 _ _ hx)
/-- the call of a nest mate's constructor on the cell made last -/
theorem k_init (C : gCk w p s m args c cc nL own) (hA : ∀ q, s.heap.size ≤ q → A q) (hAW : ∀ q, A q → A_W w q) {ix maxL n2 N mcR msR mc2 ms2 q : Nat} (k1 n1 : Nat) {y : MethodName} {bytes : ByteArray} {host : String} {fr : va_E} {Sh : Nat → va_W → Prop} (V : yOK y bytes maxL none 0) (hmx : Nat.ble maxL 21 = true) (hnest : Cond.methodLinkNest own ix y host ∈ wOdd) (hyn : y.name = "<init>") (hin : Cond.instanceMethod y ∈ wAll) (hR : R = gRmX N mcR msR) (hN : Nat.ble (n2 + 1) N = true) (hM : gN w l y bytes maxL n2 mc2 ms2 fr Sh) (hr : Nat.ble st.length 4 = true) (hd : decode cc pc = .ok (.invokespecial ix, 3)) (hk : k0 + mc2 = k1) (hn : n0 + ms2 = n1) (hk1 : Nat.ble k1 mcR = true) (hn1 : Nat.ble n1 msR = true) (k : ∀ u : va_W, Sh q u → gKk w p l e R s m args below meth c nL k1 n1 Q A (ws ++ u) lv (pc + 3) st) : gKk w p l e R s m args below meth c nL k0 n0 Q A (ws ++ [(q, fr)]) lv pc (.ref q :: st) := by
  intro H locs ls hlv hP hD hS
  obtain ⟨hx, hb, hml, hown, hts, hK, hB, hkw, har⟩ := C
  have hNN := Nat.le_of_ble_eq_true hN
  have hmx := Nat.le_of_ble_eq_true hmx
  have hrr := Nat.le_of_ble_eq_true hr
  subst hk
  subst hn
  have hq : (ws ++ [(q, fr)])[ws.length]? = some (q, fr) := by rw [List.getElem?_append_right (Nat.le_refl _), Nat.sub_self]; rfl
  have hAq : A q := hD.2 _ _ hq
  have hPq : va_P (w_G w) vwQ [(q, fr)] H := by
    intro i x hx
    cases i with
    | zero =>
      cases hx
      exact hP _ _ hq
    | succ i => simp at hx
  have hAH : ∀ q', H.size ≤ q' → A q' := fun q' h => hA q' (Nat.le_trans hS.1 h)
  have hsub : ∀ q' : Nat, va_A [(q, fr)] H.size q' → A q' := by
    intro q' h
    rcases h with ⟨j, e9, hj⟩ | hsz
    · cases j with
      | zero =>
        have h9 : q = q' := congrArg Prod.fst (Option.some.inj hj)
        rw [← h9]
        exact hAq
      | succ j => simp at hj
    · exact hAH _ hsz
  have hrun := va_runIN (As := []) (rest := st) (Ts := wAll) (cc := cc) (nL := nL) (H := H) (locs := locs) (cells := k0) (slots := n0) (below := below) (meth := meth) (e := e) (g := F0 m pc ls (.ref q :: st)) ⟨hx, hb, hml, hown, hts⟩ (hM q H.size) ⟨va_cnB (R := R) (own := own) (index := ix) (host := host) 0 hts (good_call V) rfl rfl rfl (hkw.2.2.2.2.2.2.2.2.2.1 _ hnest) (hts _ V.2.1) V.2.2 ⟨by rw [hR]; exact hNN, by rw [hR]; show 8 + (maxL + 11) + 40 * n2 ≤ 40 * N; omega⟩, hyn, hts _ hin⟩ ⟨gNI_blind, fun U hU hW => ⟨rfl, by rw [hU], by rw [hU]; exact hPq, va_K.moved hW.alike hK, kW_go hW (by rw [hU]; exact fun q' h1 h2 => hS.2.1 q' h1 (fun h3 => h2 (hAW _ h3))) hkw, arK_go hW.alike har, hAW _ hAq, Nat.le_trans hB hS.1⟩⟩ rfl rfl hlv.1 rfl (lv_room (by have := rest_sum st; omega)) hd ⟨by rw [hR]; exact Nat.le_of_ble_eq_true hk1, by rw [hR]; exact Nat.le_of_ble_eq_true hn1⟩
  refine va_callv hrun hS (fun q' _ h => hsub q' h) hsub (fun u t H1 locs1 ht hvm hw hB1 hz1 hkk hS1 => ?_)
  obtain ⟨hP1, hD1⟩ := hB1
  rw [ht] at hP1
  obtain ⟨hP2, hD2⟩ := k_joinP hP hD hAH hkk hP1 hD1
  exact k u hw H1 locs1 ls hlv hP2 hD2 hS1
end GKK
theorem gN_of {w : wT} {l : Launch} {y : MethodName} {cc : ByteArray} {maxL n mc ms : Nat} {fr : va_E} {Sh : Nat → va_W → Prop} (hpl : plainName y.cls = true) (hyn : y.name = "<init>") (hlen : Nat.ble 1 maxL = true)
    (body : ∀ (p : Program) (e : Env) (R : Room) (s : State) (m : MethodId) (args : Array Value) (below : List Frame) (meth : Method) (c : Code) (h : Nat), gCk w p s m args c cc maxL y.cls → R = gRmX n mc ms → meth.sig.returnType = none → meth.locks = false → meth.name = "<init>" → (∀ q, s.heap.size ≤ q → va_A [(h, fr)] s.heap.size q) → (∀ q, va_A [(h, fr)] s.heap.size q → A_W w q) → gKk w p l e R s m args below meth c maxL 0 0 (gNE w below args s mc ms h fr Sh) (va_A [(h, fr)] s.heap.size) [(h, fr)] [(0, .ref h)] 0 []) : gN w l y cc maxL n mc ms fr Sh := by
  intro h sz
  refine Met.ofW (cc := cc) (maxL := maxL) (ret := none) hpl rfl ?_
  intro p e s m args below meth c s₁ B hml hv
  obtain ⟨rfl, hsz, hP, hK, hkw, har, hBh, hBs⟩ := hv
  subst hsz
  have hts := atoms_spec (ws := Cond.code y cc maxL none :: wAll) B.pre
  have hown : s.vm.findClass y.cls = some m.cls := findClass_of_methodNamed B.named
  have hmn : meth.name = "<init>" := (name_of_methodNamed B.named B.method).1.trans hyn
  have hl := lv_entry [.ref h] (n := maxL) (Nat.le_of_ble_eq_true hlen)
  rw [lg_entry_eq]
  have hD : va_D (va_A [(h, fr)] s.heap.size) [(h, fr)] := by
    refine ⟨fun i j x z hx hz _ => ?_, fun i x hx => Or.inl ⟨i, x.2, hx⟩⟩
    cases i with
    | zero =>
      cases j with
      | zero => rfl
      | succ j => simp at hz
    | succ i => simp at hx
  refine body p e _ s m _ below meth c h ⟨B.exec, B.bytes, hml, hown, fun x hx => hts x (List.mem_cons_of_mem _ hx), hK, hBs, hkw, har⟩ rfl B.returns B.notSynchronized hmn (fun q hq => Or.inr hq) (fun q hq => ?_) s.heap [] _ hl hP hD va_S.rf
  rcases hq with ⟨j, e9, hj⟩ | hq
  · cases j with
    | zero =>
      have := congrArg Prod.fst (Option.some.inj hj)
      show w_B w ≤ q
      have h9 : q = h := this.symm
      omega
    | succ j => simp at hj
  · exact Nat.le_trans hBs hq
theorem arrV_eq {c : ClassId} {N : Nat} {f g : Nat → Value} (h : ∀ j, j < N → f j = g j) : arrV c N f = arrV c N g := by
  unfold arrV
  have e : (Array.ofFn (n := N) fun j => f j.val) = Array.ofFn (n := N) fun j => g j.val := by
    congr 1
    funext j
    exact h j.val j.isLt
  rw [e]
theorem va_P_ent {D : va_G} {cl : List vw_C} {X Y : va_W} {q : Nat} {e e' : va_E} {H : Heap} (h : va_P D cl ((X ++ [(q, e)]) ++ Y) H) (he : va_at D cl (q, e) H → va_at D cl (q, e') H) : va_P D cl ((X ++ [(q, e')]) ++ Y) H := by
  intro k x hx
  by_cases h1 : k < X.length
  · refine h k x ?_
    rw [List.append_assoc, List.getElem?_append_left h1] at hx ⊢
    exact hx
  · by_cases h2 : k = X.length
    · subst h2
      rw [List.append_assoc, List.getElem?_append_right (Nat.le_refl _), Nat.sub_self] at hx
      cases hx
      refine he (h X.length (q, e) ?_)
      rw [List.append_assoc, List.getElem?_append_right (Nat.le_refl _), Nat.sub_self]
      rfl
    · refine h k x ?_
      rw [List.append_assoc, List.getElem?_append_right (Nat.not_lt.mp h1)] at hx ⊢
      have h3 : k - X.length = (k - X.length - 1) + 1 := by omega
      rw [h3] at hx ⊢
      exact hx
theorem va_D_ent {A : Nat → Prop} {X Y : va_W} {q : Nat} {e e' : va_E} (h : va_D A ((X ++ [(q, e)]) ++ Y)) : va_D A ((X ++ [(q, e')]) ++ Y) := by
  have hh : ∀ (k : Nat) (x : Nat × va_E), ((X ++ [(q, e')]) ++ Y)[k]? = some x → ∃ x' : Nat × va_E, x'.1 = x.1 ∧ ((X ++ [(q, e)]) ++ Y)[k]? = some x' := by
    intro k x hx
    by_cases h1 : k < X.length
    · refine ⟨x, rfl, ?_⟩
      rw [List.append_assoc, List.getElem?_append_left h1] at hx ⊢
      exact hx
    · by_cases h2 : k = X.length
      · subst h2
        rw [List.append_assoc, List.getElem?_append_right (Nat.le_refl _), Nat.sub_self] at hx
        cases hx
        refine ⟨(q, e), rfl, ?_⟩
        rw [List.append_assoc, List.getElem?_append_right (Nat.le_refl _), Nat.sub_self]
        rfl
      · refine ⟨x, rfl, ?_⟩
        rw [List.append_assoc, List.getElem?_append_right (Nat.not_lt.mp h1)] at hx ⊢
        have h3 : k - X.length = (k - X.length - 1) + 1 := by omega
        rw [h3] at hx ⊢
        exact hx
  refine ⟨fun i j x z hx hz hxz => ?_, fun i x hx => ?_⟩
  · obtain ⟨x', e1, hx'⟩ := hh i x hx
    obtain ⟨z', e2, hz'⟩ := hh j z hz
    exact h.1 i j x' z' hx' hz' (by rw [e1, e2, hxz])
  · obtain ⟨x', e1, hx'⟩ := hh i x hx
    rw [← e1]
    exact h.2 i x' hx'
section GKM
variable {w : wT} {p : Program} {l : Launch} {e : Env} {R : Room} {s : State} {m : MethodId} {args : Array Value} {below : List Frame} {meth : Method} {c : Code} {cc : ByteArray} {nL k0 n0 : Nat} {own : String} {Q : State → Prop} {A : Nat → Prop} {ws : va_W} {lv : List (Nat × Value)} {pc : Nat} {st : List Value}
theorem k_gets (C : gCk w p s m args c cc nL own) (hAW : ∀ q, A q → A_W w q) {Cn n d : String} {v : Value} {ix : Nat} (hZ : va_Z Cn n d v (A_W w) s s.heap) (hlk : Cond.fieldLink own ix Cn n d ∈ wAll) (hd : decode cc pc = .ok (.getstatic ix, 3)) (k : gKk w p l e R s m args below meth c nL k0 n0 Q A ws lv (pc + 3) (v :: st)) : gKk w p l e R s m args below meth c nL k0 n0 Q A ws lv pc st :=
  fun H locs ls hl hP hD hS => va_gets C.1 C.2.1 (hZ.narrow hAW) hS C.2.2.2.1 (C.2.2.2.2.1 _ hlk) (fun _ h => h) hd (k H locs ls hl hP hD hS)
/-- int[8][8] -/
theorem k_mna (C : gCk w p s m args c cc nL own) (hA : ∀ q, s.heap.size ≤ q → A q) {ix : Nat} (hcl : Cond.classLink own ix ("[" ++ (FieldType.array .int).toString) ∈ wAll) (harr : Cond.arrayClass .int ∈ wAll) {NF mc ms : Nat} (hR : R = gRmX NF mc ms) (hk : Nat.ble (k0 + 9) mc = true) (hs : Nat.ble (n0 + 72) ms = true) (hd : decode cc pc = .ok (.multianewarray ix 2, 4)) (k : ∀ (q : Nat) (r : Nat → Nat) (g : Nat → Option Nat), (∀ i, i < 8 → g i = some (r i)) → gKk w p l e R s m args below meth c nL (k0 + 9) (n0 + 72) Q A ((ws ++ [(q, .inl (w_c w 24, 8, .inr (.inr (.inr (.inr g)))))]) ++ (List.range 8).map (fun i => (r i, (.inl (w_c w 20, 8, .inl (fun _ => 0)) : va_E)))) lv (pc + 4) (.ref q :: st)) : gKk w p l e R s m args below meth c nL k0 n0 Q A ws lv pc (.int 8 :: .int 8 :: st) := by
  intro H locs ls hlv hP hD hS
  have hcy : s.vm.findClass (FieldType.array .int).toString = some (w_c w 20) := (C.2.2.2.2.2.1.2 0 _ rfl).2
  refine va_mna (X := ws) (L := []) (f := fun _ => .inl (w_c w 20, 8, .inl (fun _ => 0))) (ty := .int) (z := (8, .inl (fun _ => 0))) (N' := 8) (K' := 8) C.1 C.2.1 C.2.2.2.1 (C.2.2.2.2.1 _ hcl) C.2.2.2.2.2.2.2.2.1 (C.2.2.2.2.1 _ harr) hcy C.2.2.2.2.2.1 (by show va_P _ _ (ws ++ []) H; rw [List.append_nil]; exact hP) (by show va_D _ (ws ++ []); rw [List.append_nil]; exact hD) hS hA (by decide) (by decide) (by decide) (by decide) (Nat.le_of_ble_eq_true rfl) (Nat.le_of_ble_eq_true rfl) (Nat.le_of_ble_eq_true rfl) rfl rfl (by rw [hR]; exact Nat.le_of_ble_eq_true hk) (by rw [hR]; exact Nat.le_of_ble_eq_true hs) (fun c => by
    show ({ cls := c, slots := Array.replicate 8 (defaultValue .int), vm := .none } : Cell) = _
    rw [arrV_new]; rfl) hd (fun q r cA H1 hr1 hr2 hK1 hP1 hD1 hS1 => ?_)
  have h1 : s.vm.findClass ("[" ++ (FieldType.array .int).toString) = some cA := (hK1.2 (tyW w).length (cA, .array .int) (by rw [List.getElem?_append_right (Nat.le_refl _), Nat.sub_self]; rfl)).2
  have h2 : s.vm.findClass ("[" ++ (FieldType.array .int).toString) = some (w_c w 24) := (C.2.2.2.2.2.1.2 4 _ rfl).2
  have e1 : cA = w_c w 24 := Option.some.inj (h1.symm.trans h2)
  subst e1
  have e2 : va_pl (([] : List Nat) ++ (List.range 8).map r) (vr_up (fun _ => (.inl (w_c w 20, 8, .inl (fun _ => 0)) : va_E)) ((List.range 8).map r) (.inl (w_c w 20, (8, .inl (fun _ => 0))))) = (List.range 8).map (fun i => (r i, (.inl (w_c w 20, 8, .inl (fun _ => 0)) : va_E))) := by
    rw [← vr_rows (fun a _ h => absurd h List.not_mem_nil)]
    show [] ++ List.map _ (List.map r _) = _
    rw [List.nil_append, List.map_map]
    rfl
  rw [e2] at hP1 hD1
  exact k q r _ (fun i hi => by simp only [if_pos hi]) H1 locs ls hlv hP1 hD1 hS1
/-- an entry of references may be told in other words -/
theorem k_ent {X Y : va_W} {q : Nat} {cA : ClassId} {N : Nat} {f g : Nat → Option Nat} (hfg : ∀ j, j < N → f j = g j) (k : gKk w p l e R s m args below meth c nL k0 n0 Q A ((X ++ [(q, .inl (cA, N, .inr (.inr (.inr (.inr g)))))]) ++ Y) lv pc st) : gKk w p l e R s m args below meth c nL k0 n0 Q A ((X ++ [(q, .inl (cA, N, .inr (.inr (.inr (.inr f)))))]) ++ Y) lv pc st :=
  fun H locs ls hl hP hD hS => k H locs ls hl (va_P_ent hP (fun h => by
    show H[q]? = some (vp_cell _ _)
    have h' : H[q]? = some (vp_cell cA (N, .inr (.inr (.inr (.inr f))))) := h
    rw [h', vp_cell_q, vp_cell_q, arrV_eq (fun j hj => by rw [hfg j hj])])) (va_D_ent hD) hS
end GKM
theorem at_ent {D : va_G} {cl : List vw_C} {q : Nat} {cA : ClassId} {N : Nat} {f g : Nat → Option Nat} {H : Heap} (hfg : ∀ j, j < N → f j = g j) (h : va_at D cl (q, .inl (cA, N, .inr (.inr (.inr (.inr f))))) H) : va_at D cl (q, .inl (cA, N, .inr (.inr (.inr (.inr g))))) H := by
  show H[q]? = some (vp_cell _ _)
  have h' : H[q]? = some (vp_cell cA (N, .inr (.inr (.inr (.inr f))))) := h
  rw [h', vp_cell_q, vp_cell_q, arrV_eq (fun j hj => by rw [hfg j hj])]
/-- the same cells, their entries told in other words -/
theorem k_alt {w : wT} {p : Program} {l : Launch} {e : Env} {R : Room} {s : State} {m : MethodId} {args : Array Value} {below : List Frame} {meth : Method} {c : Code} {nL k0 n0 : Nat} {Q : State → Prop} {A : Nat → Prop} {ws ws' : va_W} {lv : List (Nat × Value)} {pc : Nat} {st : List Value} (h : ∀ (i : Nat) (x : Nat × va_E), ws'[i]? = some x → ∃ e0 : va_E, ws[i]? = some (x.1, e0) ∧ ∀ H : Heap, va_at (w_G w) vwQ (x.1, e0) H → va_at (w_G w) vwQ x H) (k : gKk w p l e R s m args below meth c nL k0 n0 Q A ws' lv pc st) : gKk w p l e R s m args below meth c nL k0 n0 Q A ws lv pc st := by
  intro H locs ls hl hP hD hS
  refine k H locs ls hl (fun i x hx => ?_) ⟨fun i j x z hx hz hxz => ?_, fun i x hx => ?_⟩ hS
  · obtain ⟨e0, h1, h2⟩ := h i x hx
    exact h2 H (hP i _ h1)
  · obtain ⟨e0, h1, -⟩ := h i x hx
    obtain ⟨e1, h3, -⟩ := h j z hz
    exact hD.1 i j _ _ h1 h3 hxz
  · obtain ⟨e0, h1, -⟩ := h i x hx
    have h9 := hD.2 i (x.1, e0) h1
    exact h9
/-- a block of cells: addresses q, what the layout says of them -/
def zW : Nat → Int32 := fun _ => 0
def blkE (w : wT) (shp : List (Nat × Nat)) (q : Nat → Nat) (f0 : Nat → Int32) (o : Nat) : Nat × va_E := (q o, entS (q, w.2) (shp.getD o (20, 0)).1 (shp.getD o (20, 0)).2 o (cond (Nat.beq o 0) f0 zW))
def blk (w : wT) (shp : List (Nat × Nat)) (q : Nat → Nat) (f0 : Nat → Int32) : va_W := (List.range shp.length).map (blkE w shp q f0)
def ShB (w : wT) (shp : List (Nat × Nat)) (f0 : Nat → Int32) (h : Nat) (u : va_W) : Prop := ∃ q : Nat → Nat, q 0 = h ∧ u = blk w shp q f0
def shpL : List (Nat × Nat) := [(5, 0), (20, 8), (20, 8), (20, 8), (24, 8), (20, 8), (20, 8), (20, 8), (20, 8), (20, 8), (20, 8), (20, 8), (20, 8)]
def shpB : List (Nat × Nat) := [(2, 0), (20, 10), (20, 10), (20, 10), (20, 10), (20, 10)]
def shpT : List (Nat × Nat) := [(9, 0), (20, 12), (20, 12), (22, 12)]
def shpP : List (Nat × Nat) := [(7, 0), (20, 10), (20, 10), (20, 13)]
def shpG : List (Nat × Nat) := [(3, 0), (20, 8), (20, 8), (22, 8), (20, 8)]
def shpR : List (Nat × Nat) := [(10, 0)]
def shpI : List (Nat × Nat) := [(4, 0), (21, 60), (20, 4)]
def shpO : List (Nat × Nat) := [(6, 0), (21, 128)]
def shpM : List (Nat × Nat) := [(12, 0), (20, 187), (20, 1496), (20, 187), (20, 187), (20, 60), (21, 60), (20, 155)]
def qL (l : List Nat) : Nat → Nat := fun o => l.getD o 0
theorem pr_int (U : State) (cA : ClassId) (h : va_RA U cA .int) : U.vm.findClass ("[" ++ FieldType.int.toString) = some cA := h
theorem pr_char (U : State) (cA : ClassId) (h : va_RA U cA .char) : U.vm.findClass ("[" ++ FieldType.char.toString) = some cA := h
theorem pr_bool (U : State) (cA : ClassId) (h : va_RA U cA .boolean) : U.vm.findClass ("[" ++ FieldType.boolean.toString) = some cA := h
theorem pr_long (U : State) (cA : ClassId) (h : va_RA U cA .long) : U.vm.findClass ("[" ++ FieldType.long.toString) = some cA := h
theorem pr_double (U : State) (cA : ClassId) (h : va_RA U cA .double) : U.vm.findClass ("[" ++ FieldType.double.toString) = some cA := h
