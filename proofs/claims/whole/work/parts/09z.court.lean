/-! 09z: the court's own constructor -/
theorem yk_X8_init : yOK yX8_init cX8_init 1 (Option.none : Option Jvm.ClassFile.FieldType) 0 := ⟨wA 113 (by decide +kernel) (by decide +kernel), wA 70 (by decide +kernel) (by decide +kernel), by decide, by decide, by decide +kernel⟩
theorem yk_X7_init : yOK yX7_init cX7_init 1 (Option.none : Option Jvm.ClassFile.FieldType) 0 := ⟨wA 261 (by decide +kernel) (by decide +kernel), wA 74 (by decide +kernel) (by decide +kernel), by decide, by decide, by decide +kernel⟩
theorem yk_X2_init : yOK yX2_init cX2_init 1 (Option.none : Option Jvm.ClassFile.FieldType) 0 := ⟨wA 286 (by decide +kernel) (by decide +kernel), wA 75 (by decide +kernel) (by decide +kernel), by decide, by decide, by decide +kernel⟩
theorem yk_X10_init : yOK yX10_init cX10_init 1 (Option.none : Option Jvm.ClassFile.FieldType) 0 := ⟨wA 308 (by decide +kernel) (by decide +kernel), wA 76 (by decide +kernel) (by decide +kernel), by decide, by decide, by decide +kernel⟩
theorem yk_X3_init : yOK yX3_init cX3_init 1 (Option.none : Option Jvm.ClassFile.FieldType) 0 := ⟨wA 321 (by decide +kernel) (by decide +kernel), wA 77 (by decide +kernel) (by decide +kernel), by decide, by decide, by decide +kernel⟩
theorem yk_X6_init : yOK yX6_init cX6_init 1 (Option.none : Option Jvm.ClassFile.FieldType) 0 := ⟨wA 356 (by decide +kernel) (by decide +kernel), wA 80 (by decide +kernel) (by decide +kernel), by decide, by decide, by decide +kernel⟩
section GKC
variable {w : wT} {p : Program} {l : Launch} {e : Env} {R : Room} {s : State} {m : MethodId} {args : Array Value} {below : List Frame} {meth : Method} {c : Code} {cc : ByteArray} {nL k0 n0 : Nat} {own : String} {Q : State → Prop} {A : Nat → Prop} {ws : va_W} {lv : List (Nat × Value)} {pc : Nat} {st : List Value}
theorem k_eqW {ws' : va_W} (h : ws = ws') (k : gKk w p l e R s m args below meth c nL k0 n0 Q A ws' lv pc st) : gKk w p l e R s m args below meth c nL k0 n0 Q A ws lv pc st := h ▸ k
theorem k_wid (k1 n1 : Nat) (hk : k0 ≤ k1) (hn : n0 ≤ n1) (k : gKk w p l e R s m args below meth c nL k1 n1 Q A ws lv pc st) : gKk w p l e R s m args below meth c nL k0 n0 Q A ws lv pc st :=
  fun H locs ls hl hP hD hS => W.widen hk hn (k H locs ls hl hP hD hS)
theorem k_get (C : gCk w p s m args c cc nL own) {ix ci N a : Nat} {Cn : String} {T : u_T} {ty : Nat → FieldType} (K : cOK ci Cn T ty N) (q0 : Nat) {fs : List Value} (he : ws[q0]? = some (a, .inr (ci, fs))) (j : Nat) (hj : j < N) (hlk : Cond.fieldLink own ix (T j).1 (T j).2.1 (T j).2.2.1 ∈ wAll) (v : Value) (hv : fs[j]? = some v) (hd : decode cc pc = .ok (.getfield ix, 3)) (k : gKk w p l e R s m args below meth c nL k0 n0 Q A ws lv (pc + 3) (v :: st)) : gKk w p l e R s m args below meth c nL k0 n0 Q A ws lv pc (.ref a :: st) :=
  fun H locs ls hl hP hD hS => va_get C.1 C.2.1 C.2.2.2.2.1 K.2.2.2.1 C.2.2.2.1 C.2.2.2.2.2.1 hP q0 he K.2.1 j hj (C.2.2.2.2.1 _ hlk) (fun _ h => h) hv hd (k H locs ls hl hP hD hS)
theorem k_istore_n (C : gCk w p s m args c cc nL own) {i : Fin 4} {x : Int32} (lv' : List (Nat × Value)) (hd : decode cc pc = .ok (.istore_n i, 1)) (hn : (i : Nat) < nL) (hl' : ((i : Nat), Value.int x) :: lv.filter (fun q => !(q.1 == (i : Nat)) && !(q.1 + 1 == (i : Nat) && q.2.category == 2)) = lv') (k : gKk w p l e R s m args below meth c nL k0 n0 Q A ws lv' (pc + 1) st) : gKk w p l e R s m args below meth c nL k0 n0 Q A ws lv pc (.int x :: st) :=
  fun H locs ls hl hP hD hS => lv_istore_n C.1 C.2.1 hd rfl hl hn hl' (fun ls' hl2 => k H locs ls' hl2 hP hD hS)
theorem k_istore (C : gCk w p s m args c cc nL own) {i : Nat} {x : Int32} (lv' : List (Nat × Value)) (hd : decode cc pc = .ok (.istore i, 2)) (hn : i < nL) (hl' : (i, Value.int x) :: lv.filter (fun q => !(q.1 == i) && !(q.1 + 1 == i && q.2.category == 2)) = lv') (k : gKk w p l e R s m args below meth c nL k0 n0 Q A ws lv' (pc + 2) st) : gKk w p l e R s m args below meth c nL k0 n0 Q A ws lv pc (.int x :: st) :=
  fun H locs ls hl hP hD hS => lv_istore C.1 C.2.1 hd hl hn hl' (fun ls' hl2 => k H locs ls' hl2 hP hD hS)
theorem k_astore_n (C : gCk w p s m args c cc nL own) {i : Fin 4} {x : Nat} (lv' : List (Nat × Value)) (hd : decode cc pc = .ok (.astore_n i, 1)) (hn : (i : Nat) < nL) (hl' : ((i : Nat), Value.ref x) :: lv.filter (fun q => !(q.1 == (i : Nat)) && !(q.1 + 1 == (i : Nat) && q.2.category == 2)) = lv') (k : gKk w p l e R s m args below meth c nL k0 n0 Q A ws lv' (pc + 1) st) : gKk w p l e R s m args below meth c nL k0 n0 Q A ws lv pc (.ref x :: st) :=
  fun H locs ls hl hP hD hS => lv_astore_n C.1 C.2.1 hd rfl hl hn hl' (fun ls' hl2 => k H locs ls' hl2 hP hD hS)
theorem k_astore (C : gCk w p s m args c cc nL own) {i : Nat} {x : Nat} (lv' : List (Nat × Value)) (hd : decode cc pc = .ok (.astore i, 2)) (hn : i < nL) (hl' : (i, Value.ref x) :: lv.filter (fun q => !(q.1 == i) && !(q.1 + 1 == i && q.2.category == 2)) = lv') (k : gKk w p l e R s m args below meth c nL k0 n0 Q A ws lv' (pc + 2) st) : gKk w p l e R s m args below meth c nL k0 n0 Q A ws lv pc (.ref x :: st) :=
  fun H locs ls hl hP hD hS => lv_astore C.1 C.2.1 hd hl hn hl' (fun ls' hl2 => k H locs ls' hl2 hP hD hS)
theorem k_iload_n (C : gCk w p s m args c cc nL own) {i : Fin 4} {x : Int32} (hd : decode cc pc = .ok (.iload_n i, 1)) (j : Nat) (hj : lv[j]? = some ((i : Nat), .int x)) (k : gKk w p l e R s m args below meth c nL k0 n0 Q A ws lv (pc + 1) (.int x :: st)) : gKk w p l e R s m args below meth c nL k0 n0 Q A ws lv pc st :=
  fun H locs ls hl hP hD hS => lv_iload_n C.1 C.2.1 hd rfl (lv_at hl j hj) (k H locs ls hl hP hD hS)
theorem k_iinc (C : gCk w p s m args c cc nL own) {i : Nat} {n : Int} {x v : Int32} (lv' : List (Nat × Value)) (hd : decode cc pc = .ok (.iinc i n, 3)) (j : Nat) (hj : lv[j]? = some (i, .int x)) (hv : x + Int32.ofInt n = v) (hn : i < nL) (hl' : (i, Value.int v) :: lv.filter (fun q => !(q.1 == i) && !(q.1 + 1 == i && q.2.category == 2)) = lv') (k : gKk w p l e R s m args below meth c nL k0 n0 Q A ws lv' (pc + 3) st) : gKk w p l e R s m args below meth c nL k0 n0 Q A ws lv pc st :=
  fun H locs ls hl hP hD hS => lv_iinc C.1 C.2.1 hd hl hj hv hn hl' (fun ls' hl2 => k H locs ls' hl2 hP hD hS)
theorem k_goto (C : gCk w p s m args c cc nL own) {off : Int} {tgt : Nat} (hd : decode cc pc = .ok (.goto off, 3)) (ht : (pc : Int) + off = (tgt : Int)) (k : gKk w p l e R s m args below meth c nL k0 n0 Q A ws lv tgt st) : gKk w p l e R s m args below meth c nL k0 n0 Q A ws lv pc st :=
  fun H locs ls hl hP hD hS => lv_goto C.1 C.2.1 hd ht (k H locs ls hl hP hD hS)
theorem k_icmp_ge (C : gCk w p s m args c cc nL own) {x y : Int32} {off : Int} {tgt : Nat} (hd : decode cc pc = .ok (.if_icmp .ge off, 3)) (ht : (pc : Int) + off = (tgt : Int)) (kt : y ≤ x → gKk w p l e R s m args below meth c nL k0 n0 Q A ws lv tgt st) (kf : ¬ y ≤ x → gKk w p l e R s m args below meth c nL k0 n0 Q A ws lv (pc + 3) st) : gKk w p l e R s m args below meth c nL k0 n0 Q A ws lv pc (.int y :: .int x :: st) :=
  fun H locs ls hl hP hD hS => lv_icmp_ge C.1 C.2.1 hd ht (fun q => kt q H locs ls hl hP hD hS) (fun q => kf q H locs ls hl hP hD hS)
theorem k_sub {lv' : List (Nat × Value)} (ks : List Nat) (hp : lv_pick lv ks = lv') (h : gKk w p l e R s m args below meth c nL k0 n0 Q A ws lv' pc st) : gKk w p l e R s m args below meth c nL k0 n0 Q A ws lv pc st :=
  fun H locs ls hl hP hD hS => h H locs ls (lv_sub hl ks hp) hP hD hS
/-- a row of references to states -/
theorem k_newq (C : gCk w p s m args c cc nL own) (hA : ∀ q, s.heap.size ≤ q → A q) {ix : Nat} (hcl : Cond.classLink own ix "LanternCourt$State" ∈ wAll) {NF mc ms : Nat} (hR : R = gRmX NF mc ms) (hk : Nat.ble (k0 + 1) mc = true) (hs : Nat.ble (n0 + 8) ms = true) (hd : decode cc pc = .ok (.anewarray ix, 3)) (k : ∀ q : Nat, gKk w p l e R s m args below meth c nL (k0 + 1) (n0 + 8) Q A (ws ++ [(q, .inl (w_c w 23, 8, .inr (.inr (.inr (.inr (fun _ => none))))))]) lv (pc + 3) (.ref q :: st)) : gKk w p l e R s m args below meth c nL k0 n0 Q A ws lv pc (.int 8 :: st) := by
  intro H locs ls hlv hP hD hS
  refine va_newq C.1 C.2.1 C.2.2.2.1 (C.2.2.2.2.1 _ hcl) C.2.2.2.2.2.2.2.2.2 C.2.2.2.2.2.1 hP hD hS hA (n := 8) (N' := 8) (by decide) (by decide) (Nat.le_of_ble_eq_true rfl) (by rw [hR]; exact Nat.le_of_ble_eq_true hk) (by rw [hR]; exact Nat.le_of_ble_eq_true hs) hd (fun q cA H1 hK1 hP1 hD1 hS1 => ?_)
  obtain ⟨-, -, -, -, -, h1⟩ := (hK1.2 (tyW w).length (cA, .object "LanternCourt$State") (by rw [List.getElem?_append_right (Nat.le_refl _), Nat.sub_self]; rfl)).2
  obtain ⟨-, -, -, -, -, h2⟩ := (C.2.2.2.2.2.1.2 3 _ rfl).2
  have e1 : cA = w_c w 23 := Option.some.inj (h1.symm.trans h2)
  subst e1
  exact k q H1 locs ls hlv hP1 hD1 hS1
theorem set_mid {α : Type} {X Y : List α} {a b : α} : ((X ++ [a]) ++ Y).set X.length b = (X ++ [b]) ++ Y := by
  rw [List.append_assoc, List.append_assoc, List.set_append_right _ _ (Nat.le_refl _), Nat.sub_self]
  rfl
theorem get_mid {α : Type} {X Y : List α} {a : α} : ((X ++ [a]) ++ Y)[X.length]? = some a := by
  rw [List.append_assoc, List.getElem?_append_right (Nat.le_refl _), Nat.sub_self]
  rfl
theorem k_astq (C : gCk w p s m args c cc nL own) {X Y : va_W} {hh v : Nat} {vs : List Value} {f : Nat → Option Nat} {i : Int32} (qk : Nat) (hv : ((X ++ [(hh, .inl (w_c w 23, 8, .inr (.inr (.inr (.inr f)))))]) ++ Y)[qk]? = some (v, .inr (8, vs))) (hin : vp_in i 8) (hd : decode cc pc = .ok (.aastore, 1)) (k : gKk w p l e R s m args below meth c nL k0 n0 Q A ((X ++ [(hh, .inl (w_c w 23, 8, .inr (.inr (.inr (.inr (va_up f i.toNatClampNeg (some v)))))))]) ++ Y) lv (pc + 1) st) : gKk w p l e R s m args below meth c nL k0 n0 Q A ((X ++ [(hh, .inl (w_c w 23, 8, .inr (.inr (.inr (.inr f)))))]) ++ Y) lv pc (.ref v :: .int i :: .ref hh :: st) := by
  intro H locs ls hlv hP hD hS
  refine va_astq (r := (RX8, TX8, 9)) C.1 C.2.1 C.2.2.2.2.2.1 hP hD hS X.length 3 qk 8 get_mid rfl hv rfl hin hd (fun H1 locs1 hP1 hD1 hS1 => ?_)
  rw [set_mid] at hP1 hD1
  exact k H1 locs1 ls hlv hP1 hD1 hS1
end GKC
theorem get_end {α : Type} {W Y B : List α} : (W ++ (Y ++ B))[W.length + Y.length]? = B[0]? := by
  rw [List.getElem?_append_right (Nat.le_add_right _ _), Nat.add_sub_cancel_left, List.getElem?_append_right (Nat.le_refl _), Nat.sub_self]
def ctX (w : wT) (h hh : Nat) (q1 q2 q3 qP qG qR qI qO : Nat → Nat) : va_W := (([(h, (.inr (11, [.ref (q1 0), .ref (q2 0), .ref (q3 0), .ref hh, .ref (qP 0), .ref (qG 0), .ref (qR 0), .ref (qI 0), .ref (qO 0), .int 0, .int 0, .int 0, .int (-1), .int (-1)]) : va_E))] ++ blk w shSL q1 zW) ++ blk w shSL q2 zW) ++ blk w shSL q3 zW
def ctY (w : wT) (qP qG qR qI qO : Nat → Nat) : va_W := (((blk w shpP qP zW ++ blk w shpG qG zW) ++ blk w shpR qR zW) ++ blk w shpI qI zW) ++ blk w shpO qO zW
def ctZ (w : wT) (qs : List (Nat → Nat)) : va_W := qs.flatMap (fun q => blk w shSL q zW)
def ctF (qs : List (Nat → Nat)) : Nat → Option Nat := fun j => (qs[j]?).map (fun q => q 0)
def ctH (w : wT) (hh : Nat) (f : Nat → Option Nat) : Nat × va_E := (hh, .inl (w_c w 23, 8, .inr (.inr (.inr (.inr f)))))
def ShCrt (w : wT) (h : Nat) (u : va_W) : Prop := ∃ (hh : Nat) (q1 q2 q3 qP qG qR qI qO : Nat → Nat) (qs : List (Nat → Nat)), qs.length = 8 ∧ u = (ctX w h hh q1 q2 q3 qP qG qR qI qO ++ [ctH w hh (ctF qs)]) ++ (ctY w qP qG qR qI qO ++ ctZ w qs)
theorem ctZ_snoc {w : wT} {qs : List (Nat → Nat)} {q : Nat → Nat} : ctZ w (qs ++ [q]) = ctZ w qs ++ blk w shSL q zW := by
  unfold ctZ
  rw [List.flatMap_append, List.flatMap_singleton]
theorem ctF_snoc {qs : List (Nat → Nat)} {q : Nat → Nat} : va_up (ctF qs) qs.length (some (q 0)) = ctF (qs ++ [q]) := by
  funext j
  unfold va_up ctF
  by_cases h : j = qs.length
  · subst h
    rw [if_pos rfl, List.getElem?_append_right (Nat.le_refl _), Nat.sub_self]
    rfl
  · rw [if_neg h]
    by_cases h2 : j < qs.length
    · rw [List.getElem?_append_left h2]
    · rw [List.getElem?_append_right (by omega), List.getElem?_eq_none (by omega), List.getElem?_eq_none (by simp; omega)]
theorem ofN_le8 {n : Nat} (h : n < 8) : ¬ (8 : Int32) ≤ Int32.ofNat n := by
  rw [Int32.le_iff_toInt_le, Int32.toInt_ofNat_of_lt (by omega)]
  have h8 : (8 : Int32).toInt = 8 := by decide
  rw [h8]
  omega
theorem ofN_nat {n : Nat} (h : n < 8) : (Int32.ofNat n).toNatClampNeg = n := Int32.toNatClampNeg_ofNat_of_lt (by omega)
abbrev frCrt : va_E := .inr (11, [.null, .null, .null, .null, .null, .null, .null, .null, .null, .int 0, .int 0, .int 0, .int 0, .int 0])
set_option maxHeartbeats 4000000 in
set_option maxRecDepth 100000 in
theorem crt_loop {w : wT} {p : Program} {l : Launch} {e : Env} {R : Room} {s : State} {m : MethodId} {args : Array Value} {below : List Frame} {meth : Method} {c : Code} {h hh : Nat} {q1 q2 q3 qP qG qR qI qO : Nat → Nat} (C : gCk w p s m args c cX11_init 2 yX11_init.cls) (hA : ∀ q, s.heap.size ≤ q → va_A [(h, frCrt)] s.heap.size q) (hAW : ∀ q, va_A [(h, frCrt)] s.heap.size q → A_W w q) (hR : R = gRmX 3 291 2607) (hr : meth.sig.returnType = none) (hlk : meth.locks = false) : ∀ (n : Nat) (qs : List (Nat → Nat)), qs.length + n = 8 → gKk w p l e R s m args below meth c 2 (91 + 25 * qs.length) (919 + 211 * qs.length) (gNE w below args s 291 2607 h frCrt (ShCrt w)) (va_A [(h, frCrt)] s.heap.size) ((ctX w h hh q1 q2 q3 qP qG qR qI qO ++ [ctH w hh (ctF qs)]) ++ (ctY w qP qG qR qI qO ++ ctZ w qs)) [(1, .int (Int32.ofNat qs.length)), (0, .ref h)] 113 [] := by
  intro n
  induction n with
  | zero =>
    intro qs hn
    have h8 : qs.length = 8 := hn
    refine k_iload_n C dX11_init_113 0 rfl ?_
    refine k_bipush C (v := 8) dX11_init_114 (by decide) ?_
    refine k_icmp_ge C dX11_init_116 (tgt := 138) rfl (fun q => ?_) (fun q => ?_)
    · refine k_wid 291 2607 (by omega) (by omega) ?_
      exact k_vret C hr hlk rfl rfl ⟨hh, q1, q2, q3, qP, qG, qR, qI, qO, qs, h8, rfl⟩ dX11_init_138
    · exact absurd (by rw [h8]; decide) q
  | succ n ih =>
    intro qs hn
    have h8 : qs.length < 8 := by omega
    refine k_iload_n C dX11_init_113 0 rfl ?_
    refine k_bipush C (v := 8) dX11_init_114 (by decide) ?_
    refine k_icmp_ge C dX11_init_116 (tgt := 138) rfl (fun q => ?_) (fun q => ?_)
    · exact absurd q (ofN_le8 h8)
    refine k_aload_n C dX11_init_119 1 rfl ?_
    refine k_get C ck_11 0 (fs := [.ref (q1 0), .ref (q2 0), .ref (q3 0), .ref hh, .ref (qP 0), .ref (qG 0), .ref (qR 0), .ref (qI 0), .ref (qO 0), .int 0, .int 0, .int 0, .int (-1), .int (-1)]) rfl 3 (by decide) (wA 370 (by decide +kernel) (by decide +kernel)) (.ref hh) rfl dX11_init_120 ?_
    refine k_iload_n C dX11_init_123 0 rfl ?_
    refine k_new C hA ck_8 (wA 109 (by decide +kernel) (by decide +kernel)) (wA 110 (by decide +kernel) (by decide +kernel)) (wA 70 (by decide +kernel) (by decide +kernel)) (fs := [.int 0, .null, .null, .null, .int 0, .int 0, .null, .int 0, .int 0]) (fun j hj => by rcases (show j = 0 ∨ j = 1 ∨ j = 2 ∨ j = 3 ∨ j = 4 ∨ j = 5 ∨ j = 6 ∨ j = 7 ∨ j = 8 by omega) with rfl | rfl | rfl | rfl | rfl | rfl | rfl | rfl | rfl <;> rfl) hR (Nat.ble_eq_true_of_le (by omega)) (Nat.ble_eq_true_of_le (by omega)) dX11_init_124 (fun b => ?_)
    refine k_dup C dX11_init_127 ?_
    refine k_init (host := "LanternCourt") C hA hAW (91 + 25 * qs.length + 1 + 24) (919 + 211 * qs.length + 9 + 202) yk_X8_init rfl (wO 111 (by decide +kernel) (by decide +kernel)) rfl (wA 112 (by decide +kernel) (by decide +kernel)) hR rfl n_X8 rfl dX11_init_128 rfl rfl (Nat.ble_eq_true_of_le (by omega)) (Nat.ble_eq_true_of_le (by omega)) (fun u hu => ?_)
    obtain ⟨q, hq, rfl⟩ := hu
    subst hq
    refine k_eqW (ws' := (ctX w h hh q1 q2 q3 qP qG qR qI qO ++ [ctH w hh (ctF qs)]) ++ ((ctY w qP qG qR qI qO ++ ctZ w qs) ++ blk w shSL q zW)) (by rw [List.append_assoc]) ?_
    refine k_astq C (i := Int32.ofNat qs.length) ((ctX w h hh q1 q2 q3 qP qG qR qI qO ++ [ctH w hh (ctF qs)]).length + (ctY w qP qG qR qI qO ++ ctZ w qs).length) (vs := [.int 0, .ref (q 1), .ref (q 14), .ref (q 20), .int 0, .int 0, .ref (q 24), .int 0, .int 0]) (get_end.trans rfl) (by
      intro hv
      rw [ofN_nat h8] at hv
      rcases hv with hv | hv
      · rw [Int32.lt_iff_toInt_lt, Int32.toInt_ofNat_of_lt (by omega)] at hv
        have h0 : (0 : Int32).toInt = 0 := by decide
        omega
      · omega) dX11_init_131 ?_
    refine k_eqW (ws' := (ctX w h hh q1 q2 q3 qP qG qR qI qO ++ [ctH w hh (ctF (qs ++ [q]))]) ++ (ctY w qP qG qR qI qO ++ ctZ w (qs ++ [q]))) (by rw [ofN_nat h8, ctF_snoc, ctZ_snoc, List.append_assoc (ctY w qP qG qR qI qO)]; rfl) ?_
    refine k_iinc C (lv' := [(1, .int (Int32.ofNat (qs ++ [q]).length)), (0, .ref h)]) (v := Int32.ofNat (qs ++ [q]).length) dX11_init_132 0 rfl (by rw [List.length_append]; exact (Int32.ofNat_add qs.length 1).symm) (by decide) rfl ?_
    refine k_goto C dX11_init_135 (tgt := 113) rfl ?_
    refine k_wid (91 + 25 * (qs ++ [q]).length) (919 + 211 * (qs ++ [q]).length) (by rw [List.length_append]; show _ ≤ 91 + 25 * (qs.length + 1); omega) (by rw [List.length_append]; show _ ≤ 919 + 211 * (qs.length + 1); omega) ?_
    exact ih (qs ++ [q]) (by rw [List.length_append]; show qs.length + 1 + n = 8; omega)
set_option maxHeartbeats 4000000 in
set_option maxRecDepth 100000 in
theorem n_X11 {w : wT} {l : Launch} : gN w l yX11_init cX11_init 2 3 291 2607 frCrt (ShCrt w) := by
  refine gN_of (by decide) rfl rfl ?_
  intro p e R s m args below meth c h C hR hr hlk hmn hA hAW
  refine k_aload_n C dX11_init_0 0 rfl ?_
  refine k_objInit C hR (wA 106 (by decide +kernel) (by decide +kernel)) (wA 107 (by decide +kernel) (by decide +kernel)) (wA 108 (by decide +kernel) (by decide +kernel)) dX11_init_1 ?_
  refine k_aload_n C dX11_init_4 0 rfl ?_
  refine k_new C hA ck_8 (wA 109 (by decide +kernel) (by decide +kernel)) (wA 110 (by decide +kernel) (by decide +kernel)) (wA 70 (by decide +kernel) (by decide +kernel)) (fs := [.int 0, .null, .null, .null, .int 0, .int 0, .null, .int 0, .int 0]) (fun j hj => by rcases (show j = 0 ∨ j = 1 ∨ j = 2 ∨ j = 3 ∨ j = 4 ∨ j = 5 ∨ j = 6 ∨ j = 7 ∨ j = 8 by omega) with rfl | rfl | rfl | rfl | rfl | rfl | rfl | rfl | rfl <;> rfl) hR rfl rfl dX11_init_5 (fun b1 => ?_)
  refine k_dup C dX11_init_8 ?_
  refine k_init (host := "LanternCourt") C hA hAW 25 211 yk_X8_init rfl (wO 111 (by decide +kernel) (by decide +kernel)) rfl (wA 112 (by decide +kernel) (by decide +kernel)) hR rfl n_X8 rfl dX11_init_9 rfl rfl rfl rfl (fun u hu => ?_)
  obtain ⟨qb1, hqb1, rfl⟩ := hu
  subst hqb1
  refine k_putF C hmn ck_11 0 (fs := [.null, .null, .null, .null, .null, .null, .null, .null, .null, .int 0, .int 0, .int 0, .int 0, .int 0]) rfl 0 (by decide) (wA 367 (by decide +kernel) (by decide +kernel)) rfl rfl (fty := (.object "LanternCourt$State")) (by decide +kernel) rfl rfl (Nat.le_of_ble_eq_true rfl) (([(h, .inr (11, [.ref (qb1 0), .null, .null, .null, .null, .null, .null, .null, .null, .int 0, .int 0, .int 0, .int 0, .int 0]))] ++ blk w shSL qb1 zW)) rfl dX11_init_12 ?_
  refine k_aload_n C dX11_init_15 0 rfl ?_
  refine k_new C hA ck_8 (wA 109 (by decide +kernel) (by decide +kernel)) (wA 110 (by decide +kernel) (by decide +kernel)) (wA 70 (by decide +kernel) (by decide +kernel)) (fs := [.int 0, .null, .null, .null, .int 0, .int 0, .null, .int 0, .int 0]) (fun j hj => by rcases (show j = 0 ∨ j = 1 ∨ j = 2 ∨ j = 3 ∨ j = 4 ∨ j = 5 ∨ j = 6 ∨ j = 7 ∨ j = 8 by omega) with rfl | rfl | rfl | rfl | rfl | rfl | rfl | rfl | rfl <;> rfl) hR rfl rfl dX11_init_16 (fun b2 => ?_)
  refine k_dup C dX11_init_19 ?_
  refine k_init (host := "LanternCourt") C hA hAW 50 422 yk_X8_init rfl (wO 111 (by decide +kernel) (by decide +kernel)) rfl (wA 112 (by decide +kernel) (by decide +kernel)) hR rfl n_X8 rfl dX11_init_20 rfl rfl rfl rfl (fun u hu => ?_)
  obtain ⟨qb2, hqb2, rfl⟩ := hu
  subst hqb2
  refine k_putF C hmn ck_11 0 (fs := [.ref (qb1 0), .null, .null, .null, .null, .null, .null, .null, .null, .int 0, .int 0, .int 0, .int 0, .int 0]) rfl 1 (by decide) (wA 368 (by decide +kernel) (by decide +kernel)) rfl rfl (fty := (.object "LanternCourt$State")) (by decide +kernel) rfl rfl (Nat.le_of_ble_eq_true rfl) ((([(h, .inr (11, [.ref (qb1 0), .ref (qb2 0), .null, .null, .null, .null, .null, .null, .null, .int 0, .int 0, .int 0, .int 0, .int 0]))] ++ blk w shSL qb1 zW) ++ blk w shSL qb2 zW)) rfl dX11_init_23 ?_
  refine k_aload_n C dX11_init_26 0 rfl ?_
  refine k_new C hA ck_8 (wA 109 (by decide +kernel) (by decide +kernel)) (wA 110 (by decide +kernel) (by decide +kernel)) (wA 70 (by decide +kernel) (by decide +kernel)) (fs := [.int 0, .null, .null, .null, .int 0, .int 0, .null, .int 0, .int 0]) (fun j hj => by rcases (show j = 0 ∨ j = 1 ∨ j = 2 ∨ j = 3 ∨ j = 4 ∨ j = 5 ∨ j = 6 ∨ j = 7 ∨ j = 8 by omega) with rfl | rfl | rfl | rfl | rfl | rfl | rfl | rfl | rfl <;> rfl) hR rfl rfl dX11_init_27 (fun b3 => ?_)
  refine k_dup C dX11_init_30 ?_
  refine k_init (host := "LanternCourt") C hA hAW 75 633 yk_X8_init rfl (wO 111 (by decide +kernel) (by decide +kernel)) rfl (wA 112 (by decide +kernel) (by decide +kernel)) hR rfl n_X8 rfl dX11_init_31 rfl rfl rfl rfl (fun u hu => ?_)
  obtain ⟨qb3, hqb3, rfl⟩ := hu
  subst hqb3
  refine k_putF C hmn ck_11 0 (fs := [.ref (qb1 0), .ref (qb2 0), .null, .null, .null, .null, .null, .null, .null, .int 0, .int 0, .int 0, .int 0, .int 0]) rfl 2 (by decide) (wA 369 (by decide +kernel) (by decide +kernel)) rfl rfl (fty := (.object "LanternCourt$State")) (by decide +kernel) rfl rfl (Nat.le_of_ble_eq_true rfl) (((([(h, .inr (11, [.ref (qb1 0), .ref (qb2 0), .ref (qb3 0), .null, .null, .null, .null, .null, .null, .int 0, .int 0, .int 0, .int 0, .int 0]))] ++ blk w shSL qb1 zW) ++ blk w shSL qb2 zW) ++ blk w shSL qb3 zW)) rfl dX11_init_34 ?_
  refine k_aload_n C dX11_init_37 0 rfl ?_
  refine k_bipush C (v := 8) dX11_init_38 (by decide) ?_
  refine k_newq C hA (wA 109 (by decide +kernel) (by decide +kernel)) hR rfl rfl dX11_init_40 (fun hh => ?_)
  refine k_putF C hmn ck_11 0 (fs := [.ref (qb1 0), .ref (qb2 0), .ref (qb3 0), .null, .null, .null, .null, .null, .null, .int 0, .int 0, .int 0, .int 0, .int 0]) rfl 3 (by decide) (wA 370 (by decide +kernel) (by decide +kernel)) rfl rfl (fty := (.array (.object "LanternCourt$State"))) (by decide +kernel) rfl rfl (Nat.le_of_ble_eq_true rfl) ((((([(h, .inr (11, [.ref (qb1 0), .ref (qb2 0), .ref (qb3 0), .ref hh, .null, .null, .null, .null, .null, .int 0, .int 0, .int 0, .int 0, .int 0]))] ++ blk w shSL qb1 zW) ++ blk w shSL qb2 zW) ++ blk w shSL qb3 zW) ++ [(hh, .inl (w_c w 23, 8, .inr (.inr (.inr (.inr (fun _ => none))))))])) rfl dX11_init_43 ?_
  refine k_aload_n C dX11_init_46 0 rfl ?_
  refine k_new C hA ck_7 (wA 257 (by decide +kernel) (by decide +kernel)) (wA 258 (by decide +kernel) (by decide +kernel)) (wA 74 (by decide +kernel) (by decide +kernel)) (fs := [.int 0, .int 0, .null, .null, .null]) (fun j hj => by rcases (show j = 0 ∨ j = 1 ∨ j = 2 ∨ j = 3 ∨ j = 4 by omega) with rfl | rfl | rfl | rfl | rfl <;> rfl) hR rfl rfl dX11_init_47 (fun b4 => ?_)
  refine k_dup C dX11_init_50 ?_
  refine k_init (host := "LanternCourt") C hA hAW 80 679 yk_X7_init rfl (wO 259 (by decide +kernel) (by decide +kernel)) rfl (wA 260 (by decide +kernel) (by decide +kernel)) hR rfl n_X7 rfl dX11_init_51 rfl rfl rfl rfl (fun u hu => ?_)
  obtain ⟨qb4, hqb4, rfl⟩ := hu
  subst hqb4
  refine k_putF C hmn ck_11 0 (fs := [.ref (qb1 0), .ref (qb2 0), .ref (qb3 0), .ref hh, .null, .null, .null, .null, .null, .int 0, .int 0, .int 0, .int 0, .int 0]) rfl 4 (by decide) (wA 371 (by decide +kernel) (by decide +kernel)) rfl rfl (fty := (.object "LanternCourt$Plan")) (by decide +kernel) rfl rfl (Nat.le_of_ble_eq_true rfl) (((((([(h, .inr (11, [.ref (qb1 0), .ref (qb2 0), .ref (qb3 0), .ref hh, .ref (qb4 0), .null, .null, .null, .null, .int 0, .int 0, .int 0, .int 0, .int 0]))] ++ blk w shSL qb1 zW) ++ blk w shSL qb2 zW) ++ blk w shSL qb3 zW) ++ [(hh, .inl (w_c w 23, 8, .inr (.inr (.inr (.inr (fun _ => none))))))]) ++ blk w shpP qb4 zW)) rfl dX11_init_54 ?_
  refine k_aload_n C dX11_init_57 0 rfl ?_
  refine k_new C hA ck_3 (wA 282 (by decide +kernel) (by decide +kernel)) (wA 283 (by decide +kernel) (by decide +kernel)) (wA 75 (by decide +kernel) (by decide +kernel)) (fs := [.int 0, .null, .null, .null, .null]) (fun j hj => by rcases (show j = 0 ∨ j = 1 ∨ j = 2 ∨ j = 3 ∨ j = 4 by omega) with rfl | rfl | rfl | rfl | rfl <;> rfl) hR rfl rfl dX11_init_58 (fun b5 => ?_)
  refine k_dup C dX11_init_61 ?_
  refine k_init (host := "LanternCourt") C hA hAW 85 716 yk_X2_init rfl (wO 284 (by decide +kernel) (by decide +kernel)) rfl (wA 285 (by decide +kernel) (by decide +kernel)) hR rfl n_X2 rfl dX11_init_62 rfl rfl rfl rfl (fun u hu => ?_)
  obtain ⟨qb5, hqb5, rfl⟩ := hu
  subst hqb5
  refine k_putF C hmn ck_11 0 (fs := [.ref (qb1 0), .ref (qb2 0), .ref (qb3 0), .ref hh, .ref (qb4 0), .null, .null, .null, .null, .int 0, .int 0, .int 0, .int 0, .int 0]) rfl 5 (by decide) (wA 372 (by decide +kernel) (by decide +kernel)) rfl rfl (fty := (.object "LanternCourt$Groups")) (by decide +kernel) rfl rfl (Nat.le_of_ble_eq_true rfl) ((((((([(h, .inr (11, [.ref (qb1 0), .ref (qb2 0), .ref (qb3 0), .ref hh, .ref (qb4 0), .ref (qb5 0), .null, .null, .null, .int 0, .int 0, .int 0, .int 0, .int 0]))] ++ blk w shSL qb1 zW) ++ blk w shSL qb2 zW) ++ blk w shSL qb3 zW) ++ [(hh, .inl (w_c w 23, 8, .inr (.inr (.inr (.inr (fun _ => none))))))]) ++ blk w shpP qb4 zW) ++ blk w shpG qb5 zW)) rfl dX11_init_65 ?_
  refine k_aload_n C dX11_init_68 0 rfl ?_
  refine k_new C hA ck_10 (wA 304 (by decide +kernel) (by decide +kernel)) (wA 305 (by decide +kernel) (by decide +kernel)) (wA 76 (by decide +kernel) (by decide +kernel)) (fs := [.int 0, .int 0]) (fun j hj => by rcases (show j = 0 ∨ j = 1 by omega) with rfl | rfl <;> rfl) hR rfl rfl dX11_init_69 (fun b6 => ?_)
  refine k_dup C dX11_init_72 ?_
  refine k_init (host := "LanternCourt") C hA hAW 86 718 yk_X10_init rfl (wO 306 (by decide +kernel) (by decide +kernel)) rfl (wA 307 (by decide +kernel) (by decide +kernel)) hR rfl n_X10 rfl dX11_init_73 rfl rfl rfl rfl (fun u hu => ?_)
  obtain ⟨qb6, hqb6, rfl⟩ := hu
  subst hqb6
  refine k_putF C hmn ck_11 0 (fs := [.ref (qb1 0), .ref (qb2 0), .ref (qb3 0), .ref hh, .ref (qb4 0), .ref (qb5 0), .null, .null, .null, .int 0, .int 0, .int 0, .int 0, .int 0]) rfl 6 (by decide) (wA 373 (by decide +kernel) (by decide +kernel)) rfl rfl (fty := (.object "LanternCourt$Trials")) (by decide +kernel) rfl rfl (Nat.le_of_ble_eq_true rfl) (((((((([(h, .inr (11, [.ref (qb1 0), .ref (qb2 0), .ref (qb3 0), .ref hh, .ref (qb4 0), .ref (qb5 0), .ref (qb6 0), .null, .null, .int 0, .int 0, .int 0, .int 0, .int 0]))] ++ blk w shSL qb1 zW) ++ blk w shSL qb2 zW) ++ blk w shSL qb3 zW) ++ [(hh, .inl (w_c w 23, 8, .inr (.inr (.inr (.inr (fun _ => none))))))]) ++ blk w shpP qb4 zW) ++ blk w shpG qb5 zW) ++ blk w shpR qb6 zW)) rfl dX11_init_76 ?_
  refine k_aload_n C dX11_init_79 0 rfl ?_
  refine k_new C hA ck_4 (wA 317 (by decide +kernel) (by decide +kernel)) (wA 318 (by decide +kernel) (by decide +kernel)) (wA 77 (by decide +kernel) (by decide +kernel)) (fs := [.null, .int 0, .int 0, .null, .null, .int 0, .int 0]) (fun j hj => by rcases (show j = 0 ∨ j = 1 ∨ j = 2 ∨ j = 3 ∨ j = 4 ∨ j = 5 ∨ j = 6 by omega) with rfl | rfl | rfl | rfl | rfl | rfl | rfl <;> rfl) hR rfl rfl dX11_init_80 (fun b7 => ?_)
  refine k_dup C dX11_init_83 ?_
  refine k_init (host := "LanternCourt") C hA hAW 89 789 yk_X3_init rfl (wO 319 (by decide +kernel) (by decide +kernel)) rfl (wA 320 (by decide +kernel) (by decide +kernel)) hR rfl n_X3 rfl dX11_init_84 rfl rfl rfl rfl (fun u hu => ?_)
  obtain ⟨qb7, hqb7, rfl⟩ := hu
  subst hqb7
  refine k_putF C hmn ck_11 0 (fs := [.ref (qb1 0), .ref (qb2 0), .ref (qb3 0), .ref hh, .ref (qb4 0), .ref (qb5 0), .ref (qb6 0), .null, .null, .int 0, .int 0, .int 0, .int 0, .int 0]) rfl 7 (by decide) (wA 374 (by decide +kernel) (by decide +kernel)) rfl rfl (fty := (.object "LanternCourt$Input")) (by decide +kernel) rfl rfl (Nat.le_of_ble_eq_true rfl) ((((((((([(h, .inr (11, [.ref (qb1 0), .ref (qb2 0), .ref (qb3 0), .ref hh, .ref (qb4 0), .ref (qb5 0), .ref (qb6 0), .ref (qb7 0), .null, .int 0, .int 0, .int 0, .int 0, .int 0]))] ++ blk w shSL qb1 zW) ++ blk w shSL qb2 zW) ++ blk w shSL qb3 zW) ++ [(hh, .inl (w_c w 23, 8, .inr (.inr (.inr (.inr (fun _ => none))))))]) ++ blk w shpP qb4 zW) ++ blk w shpG qb5 zW) ++ blk w shpR qb6 zW) ++ blk w shpI qb7 zW)) rfl dX11_init_87 ?_
  refine k_aload_n C dX11_init_90 0 rfl ?_
  refine k_new C hA ck_6 (wA 352 (by decide +kernel) (by decide +kernel)) (wA 353 (by decide +kernel) (by decide +kernel)) (wA 80 (by decide +kernel) (by decide +kernel)) (fs := [.null, .int 0]) (fun j hj => by rcases (show j = 0 ∨ j = 1 by omega) with rfl | rfl <;> rfl) hR rfl rfl dX11_init_91 (fun b8 => ?_)
  refine k_dup C dX11_init_94 ?_
  refine k_init (host := "LanternCourt") C hA hAW 91 919 yk_X6_init rfl (wO 354 (by decide +kernel) (by decide +kernel)) rfl (wA 355 (by decide +kernel) (by decide +kernel)) hR rfl n_X6 rfl dX11_init_95 rfl rfl rfl rfl (fun u hu => ?_)
  obtain ⟨qb8, hqb8, rfl⟩ := hu
  subst hqb8
  refine k_putF C hmn ck_11 0 (fs := [.ref (qb1 0), .ref (qb2 0), .ref (qb3 0), .ref hh, .ref (qb4 0), .ref (qb5 0), .ref (qb6 0), .ref (qb7 0), .null, .int 0, .int 0, .int 0, .int 0, .int 0]) rfl 8 (by decide) (wA 375 (by decide +kernel) (by decide +kernel)) rfl rfl (fty := (.object "LanternCourt$Output")) (by decide +kernel) rfl rfl (Nat.le_of_ble_eq_true rfl) (((((((((([(h, .inr (11, [.ref (qb1 0), .ref (qb2 0), .ref (qb3 0), .ref hh, .ref (qb4 0), .ref (qb5 0), .ref (qb6 0), .ref (qb7 0), .ref (qb8 0), .int 0, .int 0, .int 0, .int 0, .int 0]))] ++ blk w shSL qb1 zW) ++ blk w shSL qb2 zW) ++ blk w shSL qb3 zW) ++ [(hh, .inl (w_c w 23, 8, .inr (.inr (.inr (.inr (fun _ => none))))))]) ++ blk w shpP qb4 zW) ++ blk w shpG qb5 zW) ++ blk w shpR qb6 zW) ++ blk w shpI qb7 zW) ++ blk w shpO qb8 zW)) rfl dX11_init_98 ?_
  refine k_aload_n C dX11_init_101 0 rfl ?_
  refine k_iconst C (v := (-1)) dX11_init_102 (by decide) ?_
  refine k_put C ck_11 0 (fs := [.ref (qb1 0), .ref (qb2 0), .ref (qb3 0), .ref hh, .ref (qb4 0), .ref (qb5 0), .ref (qb6 0), .ref (qb7 0), .ref (qb8 0), .int 0, .int 0, .int 0, .int 0, .int 0]) rfl 12 (by decide) (wA 379 (by decide +kernel) (by decide +kernel)) rfl (fty := .int) (by decide +kernel) rfl rfl (Nat.le_of_ble_eq_true rfl) (((((((((([(h, .inr (11, [.ref (qb1 0), .ref (qb2 0), .ref (qb3 0), .ref hh, .ref (qb4 0), .ref (qb5 0), .ref (qb6 0), .ref (qb7 0), .ref (qb8 0), .int 0, .int 0, .int 0, .int (-1), .int 0]))] ++ blk w shSL qb1 zW) ++ blk w shSL qb2 zW) ++ blk w shSL qb3 zW) ++ [(hh, .inl (w_c w 23, 8, .inr (.inr (.inr (.inr (fun _ => none))))))]) ++ blk w shpP qb4 zW) ++ blk w shpG qb5 zW) ++ blk w shpR qb6 zW) ++ blk w shpI qb7 zW) ++ blk w shpO qb8 zW)) rfl dX11_init_103 ?_
  refine k_aload_n C dX11_init_106 0 rfl ?_
  refine k_iconst C (v := (-1)) dX11_init_107 (by decide) ?_
  refine k_put C ck_11 0 (fs := [.ref (qb1 0), .ref (qb2 0), .ref (qb3 0), .ref hh, .ref (qb4 0), .ref (qb5 0), .ref (qb6 0), .ref (qb7 0), .ref (qb8 0), .int 0, .int 0, .int 0, .int (-1), .int 0]) rfl 13 (by decide) (wA 380 (by decide +kernel) (by decide +kernel)) rfl (fty := .int) (by decide +kernel) rfl rfl (Nat.le_of_ble_eq_true rfl) (((((((((([(h, .inr (11, [.ref (qb1 0), .ref (qb2 0), .ref (qb3 0), .ref hh, .ref (qb4 0), .ref (qb5 0), .ref (qb6 0), .ref (qb7 0), .ref (qb8 0), .int 0, .int 0, .int 0, .int (-1), .int (-1)]))] ++ blk w shSL qb1 zW) ++ blk w shSL qb2 zW) ++ blk w shSL qb3 zW) ++ [(hh, .inl (w_c w 23, 8, .inr (.inr (.inr (.inr (fun _ => none))))))]) ++ blk w shpP qb4 zW) ++ blk w shpG qb5 zW) ++ blk w shpR qb6 zW) ++ blk w shpI qb7 zW) ++ blk w shpO qb8 zW)) rfl dX11_init_108 ?_
  refine k_iconst C (v := 0) dX11_init_111 (by decide) ?_
  refine k_istore_n C (lv' := [(1, .int 0), (0, .ref h)]) dX11_init_112 (by decide) rfl ?_
  refine k_eqW (ws' := (ctX w h hh qb1 qb2 qb3 qb4 qb5 qb6 qb7 qb8 ++ [ctH w hh (ctF [])]) ++ (ctY w qb4 qb5 qb6 qb7 qb8 ++ ctZ w [])) ?_ ?_
  · unfold ctX ctY ctZ ctH
    rw [show ctF [] = (fun _ => none) from funext fun j => rfl]
    simp only [List.append_assoc, List.flatMap_nil, List.append_nil]
  exact crt_loop C hA hAW hR hr hlk 8 [] rfl
