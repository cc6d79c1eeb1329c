/-! 05k: rows over the launch's constants -/
theorem kwS_lt (k : Nat) : kwS k < 54 := by unfold kwS; omega
theorem fmS_lt (k : Nat) : fmS k < 54 := by unfold fmS; omega
theorem inb_nat {i : Int32} {n : Nat} (h : inb i n = true) : i.toNatClampNeg < n := by
  unfold inb at h
  rw [Bool.and_eq_true, decide_eq_true_eq, decide_eq_true_eq] at h
  exact h.2
theorem ldcWString {p : Program} {l : Launch} {e : Env} {R : Room} {s : State} {m : MethodId} {args : Array Value} {below : List Frame} {meth : Method} {c : Code} {T : State} {locs : List Loc} {cells slots : Nat}
    (X : Stand p l e R s m args below meth c T locs cells slots) (hexec : p.tables.exec = Jvm.exec) {own text : String} {index : Nat} {a : Addr} (hown : s.vm.findClass own = some m.cls)
    (hconst : (Cond.stringRef own index text).before args s = true) (hev : (Term.string own index).eval args s none [] s = some (.ref a)) {g : JFrame} (hg : g.method = m) (hdg : decode c.code g.pc = .ok (.ldc_w index, 3)) :
    ∀ target, Steps p.tables e below (T.setTop { g with pc := g.pc + 3, stack := .ref a :: g.stack }) target → Steps p.tables e below (T.setTop g) target := by
  obtain ⟨k, cf, i, a', hk, hcf, hcp, -, hr, hev'⟩ := Cond.stringRef_spec hown hconst
  cases hev.symm.trans hev'
  obtain ⟨k', hk', he⟩ := X.warmed.alike.2.2 _ _ hk
  have hr' : k'.resolved[index]? = some (some (.string a)) := by
    rcases X.warmed.entry hk hk' index with h | ⟨h, -⟩
    · rw [h]; exact hr
    · rw [hr] at h; cases h
  intro target hrest
  subst hg
  jvm_step X.here [hexec, hdg, ldc_w.wp_string (e := e) (s := T) (f := g) X.here.top hk' (by rw [he]; exact hcf) hcp hr']
  exact hrest
section GK
variable {w : wT} {p : Program} {l : Launch} {e : Env} {R : Room} {s : State} {m : MethodId} {args : Array Value} {below : List Frame} {meth : Method} {c : Code} {cc : ByteArray} {nL k0 n0 : Nat} {own : String} {Q : State → Prop} {d : Dt} {lv : List (Nat × Value)} {pc : Nat} {st : List Value}
theorem g_ldcS (C : gC w p s m args c cc nL own) (i : Nat) (hi : i < 54) {ix : Nat} (h1 : (kq i).1 = own) (h2 : (kq i).2.1 = ix) (hd : decode cc pc = .ok (.ldc ix, 2)) (k : gG w p l e R s m args below meth c nL k0 n0 Q d lv (pc + 2) (.ref (w_k w i) :: st)) : gG w p l e R s m args below meth c nL k0 n0 Q d lv pc st := by
  have hR := (C.2.2.2.2.2.2.2.2.1 i hi).1
  rw [h1, h2] at hR
  exact fun H locs ls hl hP hS => va_ldcS C.1 C.2.1 C.2.2.2.1 hR hd (k H locs ls hl hP hS)
theorem g_ldcwS (C : gC w p s m args c cc nL own) (i : Nat) (hi : i < 54) {ix : Nat} (h1 : (kq i).1 = own) (h2 : (kq i).2.1 = ix) (hd : decode cc pc = .ok (.ldc_w ix, 3)) (k : gG w p l e R s m args below meth c nL k0 n0 Q d lv (pc + 3) (.ref (w_k w i) :: st)) : gG w p l e R s m args below meth c nL k0 n0 Q d lv pc st := by
  have hR := (C.2.2.2.2.2.2.2.2.1 i hi).1
  rw [h1, h2] at hR
  intro H locs ls hl hP hS T hT X
  obtain ⟨t, a1, b1⟩ := k H locs ls hl hP hS T hT X
  have hR1 : (Cond.stringRef own ix (kq i).2.2).before args s = true := hR.1
  exact ⟨t, ldcWString X C.1 C.2.2.2.1 hR1 hR.2 (g := F0 m pc ls st) rfl (by rw [C.2.1]; exact hd) t a1, b1⟩
/-- a field of a constant object -/
theorem g_getO (C : gC w p s m args c cc nL own) {o n dsc : String} {v : Value} {a ix : Nat} (hE : va_OF o n dsc v a (A_W w) s s.heap) (hk : Cond.fieldLink own ix o n dsc ∈ wAll) (hd : decode cc pc = .ok (.getfield ix, 3)) (k : gG w p l e R s m args below meth c nL k0 n0 Q d lv (pc + 3) (v :: st)) : gG w p l e R s m args below meth c nL k0 n0 Q d lv pc (.ref a :: st) :=
  fun H locs ls hl hP hS => vk_getf C.1 C.2.1 hE hS C.2.2.2.1 (C.2.2.2.2.1 _ hk) (fun _ h => h) hd (k H locs ls hl hP hS)
theorem g_gets (C : gC w p s m args c cc nL own) {o n dsc : String} {v : Value} {ix : Nat} (hE : va_Z o n dsc v (A_W w) s s.heap) (hk : Cond.fieldLink own ix o n dsc ∈ wAll) (hd : decode cc pc = .ok (.getstatic ix, 3)) (k : gG w p l e R s m args below meth c nL k0 n0 Q d lv (pc + 3) (v :: st)) : gG w p l e R s m args below meth c nL k0 n0 Q d lv pc st :=
  fun H locs ls hl hP hS => va_gets C.1 C.2.1 hE hS C.2.2.2.1 (C.2.2.2.2.1 _ hk) (fun _ h => h) hd (k H locs ls hl hP hS)
theorem g_getsN (C : gC w p s m args c cc nL own) {o n dsc host : String} {v : Value} {ix : Nat} (hE : va_Z o n dsc v (A_W w) s s.heap) (hk : Cond.fieldLinkNest own ix o n dsc host ∈ wOdd) (hd : decode cc pc = .ok (.getstatic ix, 3)) (k : gG w p l e R s m args below meth c nL k0 n0 Q d lv (pc + 3) (v :: st)) : gG w p l e R s m args below meth c nL k0 n0 Q d lv pc st :=
  fun H locs ls hl hP hS => va_getsN C.1 C.2.1 hE hS C.2.2.2.1 (va_Nw.use rfl (C.2.2.2.2.2.2.2.2.2.2.2.2.2.2.2.2.2.1 _ hk)) (fun _ h => h) hd (k H locs ls hl hP hS)
theorem g_lenK (C : gC w p s m args c cc nL own) {ty : FieldType} {t N : Nat} {f : Nat → Value} (hT : va_T ty t N f (A_W w) s s.heap) {v : Int32} (hv : Int32.ofNat N = v) (hd : decode cc pc = .ok (.arraylength, 1)) (k : gG w p l e R s m args below meth c nL k0 n0 Q d lv (pc + 1) (.int v :: st)) : gG w p l e R s m args below meth c nL k0 n0 Q d lv pc (.ref t :: st) :=
  fun H locs ls hl hP hS => va_tlen C.1 C.2.1 hT hS hv hd (k H locs ls hl hP hS)
theorem g_baldK (C : gC w p s m args c cc nL own) {t N : Nat} {f : Nat → Value} (hT : va_T .byte t N f (A_W w) s s.heap) {i : Int32} (hi : inb i N = true) {v : Value} (hv : f i.toNatClampNeg = v) (hd : decode cc pc = .ok (.baload, 1)) (k : gG w p l e R s m args below meth c nL k0 n0 Q d lv (pc + 1) (v :: st)) : gG w p l e R s m args below meth c nL k0 n0 Q d lv pc (.int i :: .ref t :: st) :=
  fun H locs ls hl hP hS => va_tb C.1 C.2.1 hT hS (inb_in hi) hv hd (k H locs ls hl hP hS)
theorem g_ialdK (C : gC w p s m args c cc nL own) {t N : Nat} {f : Nat → Value} (hT : va_T .int t N f (A_W w) s s.heap) {i : Int32} (hi : inb i N = true) {v : Value} (hv : f i.toNatClampNeg = v) (hd : decode cc pc = .ok (.iaload, 1)) (k : gG w p l e R s m args below meth c nL k0 n0 Q d lv (pc + 1) (v :: st)) : gG w p l e R s m args below meth c nL k0 n0 Q d lv pc (.int i :: .ref t :: st) :=
  fun H locs ls hl hP hS => va_ti C.1 C.2.1 hT hS (inb_in hi) hv hd (k H locs ls hl hP hS)
theorem g_aaldK (C : gC w p s m args c cc nL own) {E : String} {t N : Nat} {f : Nat → Value} (hT : va_T (.object E) t N f (A_W w) s s.heap) {i : Int32} (hi : inb i N = true) {v : Value} (hv : f i.toNatClampNeg = v) (hd : decode cc pc = .ok (.aaload, 1)) (k : gG w p l e R s m args below meth c nL k0 n0 Q d lv (pc + 1) (v :: st)) : gG w p l e R s m args below meth c nL k0 n0 Q d lv pc (.int i :: .ref t :: st) :=
  fun H locs ls hl hP hS => vb_tq C.1 C.2.1 hT hS (inb_in hi) hv hd (k H locs ls hl hP hS)
theorem ks_row (C : gC w p s m args c cc nL own) {i : Nat} (hi : i < 54) : va_T .byte (w_k w (100 + i)) (sL i) (fun j => .int (sB i j)) (A_W w) s s.heap := ((C.2.2.2.2.2.2.2.2).1 i hi).2.2.2.2
theorem ks_value (C : gC w p s m args c cc nL own) {i : Nat} (hi : i < 54) : va_OF "java/lang/String" "value" "[B" (.ref (w_k w (100 + i))) (w_k w i) (A_W w) s s.heap := ((C.2.2.2.2.2.2.2.2).1 i hi).2.2.2.1
theorem ks_coder (C : gC w p s m args c cc nL own) {i : Nat} (hi : i < 54) : va_OF "java/lang/String" "coder" "B" (.int 0) (w_k w i) (A_W w) s s.heap := ((C.2.2.2.2.2.2.2.2).1 i hi).2.2.1
theorem ks_obj (C : gC w p s m args c cc nL own) {i : Nat} (hi : i < 54) : va_O "java/lang/String" (w_k w i) (A_W w) s s.heap := ((C.2.2.2.2.2.2.2.2).1 i hi).2.1
theorem ks_ref (C : gC w p s m args c cc nL own) {i : Nat} (hi : i < 54) : vk_R (kq i).1 (kq i).2.1 (kq i).2.2 (w_k w i) s := ((C.2.2.2.2.2.2.2.2).1 i hi).1
theorem kk_obj (C : gC w p s m args c cc nL own) {x : Int32} (hi : inb x 8 = true) : va_O "LanternCourt$Kind" (w_k w (200 + x.toNatClampNeg)) (A_W w) s s.heap := ((C.2.2.2.2.2.2.2.2).2.1 _ (inb_nat hi)).1
theorem kk_ord (C : gC w p s m args c cc nL own) {x : Int32} (hi : inb x 8 = true) : va_OF "java/lang/Enum" "ordinal" "I" (.int (Int32.ofNat x.toNatClampNeg)) (w_k w (200 + x.toNatClampNeg)) (A_W w) s s.heap := ((C.2.2.2.2.2.2.2.2).2.1 _ (inb_nat hi)).2.1
theorem kk_kw (C : gC w p s m args c cc nL own) {x : Int32} (hi : inb x 8 = true) : va_OF "LanternCourt$Kind" "keyword" "Ljava/lang/String;" (.ref (w_k w (kwS x.toNatClampNeg))) (w_k w (200 + x.toNatClampNeg)) (A_W w) s s.heap := ((C.2.2.2.2.2.2.2.2).2.1 _ (inb_nat hi)).2.2.1
theorem kk_fm (C : gC w p s m args c cc nL own) {x : Int32} (hi : inb x 8 = true) : va_OF "LanternCourt$Kind" "form" "Ljava/lang/String;" (.ref (w_k w (fmS x.toNatClampNeg))) (w_k w (200 + x.toNatClampNeg)) (A_W w) s s.heap := ((C.2.2.2.2.2.2.2.2).2.1 _ (inb_nat hi)).2.2.2
theorem kK_Z (C : gC w p s m args c cc nL own) : va_Z "LanternCourt" "KINDS" "[LLanternCourt$Kind;" (.ref (w_k w 300)) (A_W w) s s.heap := (C.2.2.2.2.2.2.2.2).2.2.1.1
theorem kK_T (C : gC w p s m args c cc nL own) : va_T (.object "LanternCourt$Kind") (w_k w 300) 8 (fun j => .ref (w_k w (200 + j))) (A_W w) s s.heap := (C.2.2.2.2.2.2.2.2).2.2.1.2
theorem kM_Z (C : gC w p s m args c cc nL own) : va_Z "LanternCourt$1" "$SwitchMap$LanternCourt$Kind" "[I" (.ref (w_k w 301)) (A_W w) s s.heap := (C.2.2.2.2.2.2.2.2).2.2.2.1.1
theorem kM_T (C : gC w p s m args c cc nL own) : va_T .int (w_k w 301) 8 (fun j => .int (smS j)) (A_W w) s s.heap := (C.2.2.2.2.2.2.2.2).2.2.2.1.2
theorem kL_Z (C : gC w p s m args c cc nL own) : va_Z "LanternCourt$Kind" "LANTERN" "LLanternCourt$Kind;" (.ref (w_k w 200)) (A_W w) s s.heap := (C.2.2.2.2.2.2.2.2).2.2.2.2.1
theorem kC_Z (C : gC w p s m args c cc nL own) : va_Z "java/lang/String" "COMPACT_STRINGS" "Z" (.int 1) (A_W w) s s.heap := (C.2.2.2.2.2.2.2.2).2.2.2.2.2.1
/-- i2b, i2d and the like -/
theorem g_i2b (C : gC w p s m args c cc nL own) {x : Int32} (hd : decode cc pc = .ok (.i2b, 1)) (k : gG w p l e R s m args below meth c nL k0 n0 Q d lv (pc + 1) (.int (x.toInt8.toInt32) :: st)) : gG w p l e R s m args below meth c nL k0 n0 Q d lv pc (.int x :: st) :=
  fun H locs ls hl hP hS => lv_i2b C.1 C.2.1 hd rfl (k H locs ls hl hP hS)
end GK
theorem wO {x : Cond} (i : Nat) (h : lw_tbl[i]? = some x) (g : oddW x = true) : x ∈ wOdd := List.mem_filter.mpr ⟨List.mem_of_getElem? h, g⟩
section GK2
variable {w : wT} {p : Program} {l : Launch} {e : Env} {R : Room} {s : State} {m : MethodId} {args : Array Value} {below : List Frame} {meth : Method} {c : Code} {cc : ByteArray} {nL k0 n0 : Nat} {own : String} {Q : State → Prop} {d : Dt} {lv : List (Nat × Value)} {pc : Nat} {st : List Value}
theorem k_unas (C : gC w p s m args c cc nL own) : vx_Zq Bundle.tN "UNASSIGNED_STACK" Bundle.steD (A_W w) s s.heap := (C.2.2.2.2.2.2.2.2).2.2.2.2.2.2.1
theorem k_supp (C : gC w p s m args c cc nL own) : vx_Zq Bundle.tN "SUPPRESSED_SENTINEL" Bundle.listD (A_W w) s s.heap := (C.2.2.2.2.2.2.2.2).2.2.2.2.2.2.2.1
theorem k_siob (C : gC w p s m args c cc nL own) : va_Zq "jdk/internal/util/Preconditions" "SIOOBE_FORMATTER" "Ljava/util/function/BiFunction;" (A_W w) s s.heap := (C.2.2.2.2.2.2.2.2).2.2.2.2.2.2.2.2.1
theorem k_odd (C : gC w p s m args c cc nL own) {x : Cond} (h : x ∈ wOdd) : va_Nw x s := (C.2.2.2.2.2.2.2.2).2.2.2.2.2.2.2.2.2.1 x h
theorem k_nc (C : gC w p s m args c cc nL own) {a b : String} (h : (a, b) ∈ ncP) : va_Nc a b s := (C.2.2.2.2.2.2.2.2).2.2.2.2.2.2.2.2.2.2 (a, b) h
/-- System.arraycopy of whole rows of ints, from their beginnings -/
theorem g_copy (C : gC w p s m args c cc nL own) {ix N n0' n1' : Nat} {n : Int32} (q0 q1 : Nat) (h0 : isC q0 20 n0') (h1 : isC q1 20 n1') (nn : Nat) (hn : n.toNatClampNeg = nn) (hn0 : ¬ n < 0) (hb0 : Nat.ble nn n0' = true) (hb1 : Nat.ble nn n1' = true) (hk : Cond.methodLink own ix arraycopyName ∈ wAll) (hnat : Cond.native arraycopyName ∈ wAll) (hsta : Cond.static arraycopyName ∈ wAll) (hini : Cond.initialized "java/lang/System" ∈ wAll) {mcR msR : Nat} (hR : R = gRmX N mcR msR) (hN : Nat.ble 1 N = true) (hd : decode cc pc = .ok (.invokestatic ix, 3)) (k : gG w p l e R s m args below meth c nL k0 n0 Q (wrf d q1 (va_cpy (d q0) (d q1) 0 0 nn)) lv (pc + 3) []) : gG w p l e R s m args below meth c nL k0 n0 Q d lv pc [.int n, .int 0, .ref (w_r w q1), .int 0, .ref (w_r w q0)] := by
  intro H locs ls hl hP hS
  obtain ⟨hx, hb, hml, hown, hts, hK, hO, hB, hkw⟩ := C
  have hNN := Nat.le_of_ble_eq_true hN
  have z5 : nativeFrameWords "java/lang/System" "arraycopy" 5 ≤ 8 := by decide +kernel
  refine va_copyi hx hb (hml.trans hl.1.symm) hown (hts _ hk) (hts _ hnat) (hts _ hsta) (hts _ hini) hK hP (dW hO) hS q0 q1 0 0 (wsW_row h0 rfl) (wsW_row h1 rfl) rfl rfl rfl (by decide) (by decide) hn0 (by rw [hn]; have := Nat.le_of_ble_eq_true hb0; show 0 + nn ≤ n0'; omega) (by rw [hn]; have := Nat.le_of_ble_eq_true hb1; show 0 + nn ≤ n1'; omega) (fun _ _ => rfl) (by rw [hR]; exact hNN) (by rw [hR]; show 0 + (nativeFrameWords "java/lang/System" "arraycopy" 5 + 11) ≤ 40 * N; omega) hd (fun H1 locs1 hP1 _ hS1 => k H1 locs1 ls hl ?_ hS1)
  rw [hn] at hP1
  rwa [show ((0 : Int32).toNatClampNeg) = 0 from by decide, wsW_putr h1 rfl rfl] at hP1
/-- a call of a method of a constant object -/
theorem g_callO (C : gC w p s m args c cc nL own) {ix maxL nA n2 N : Nat} {y : MethodName} {bytes : ByteArray} {ret : Option FieldType} {As rest : List Value} {d' : Dt} {r : Int32} (a : Nat) (hE : va_O y.cls a (A_W w) s s.heap) (hY : yOK y bytes maxL ret nA) (hmx : Nat.ble maxL 21 = true) (hlk : Cond.methodLink own ix y ∈ wAll) (hin : Cond.instanceMethod y ∈ wAll) (hsel : Cond.selects y.cls y y ∈ wAll) {mcR msR : Nat} (hR : R = gRmX N mcR msR) (hN : Nat.ble (n2 + 1) N = true) (hM : gM w l y bytes maxL ret n2 (.ref a :: As) d d' (some (.int r))) (hA : As.length = nA) (hr : Nat.ble rest.length 4 = true) (hst : st = As.reverse ++ .ref a :: rest) (hd : decode cc pc = .ok (.invokevirtual ix, 3)) (hk0 : Nat.ble k0 mcR = true) (hn0 : Nat.ble n0 msR = true) (k : gG w p l e R s m args below meth c nL k0 n0 Q d' lv (pc + 3) (.int r :: rest)) : gG w p l e R s m args below meth c nL k0 n0 Q d lv pc st := by
  intro H locs ls hl hP hS
  obtain ⟨hx, hb, hml, hown, hts, hK, hO, hB, hkw⟩ := C
  have hNN := Nat.le_of_ble_eq_true hN
  have hrr := Nat.le_of_ble_eq_true hr
  have hmm := Nat.le_of_ble_eq_true hmx
  subst hst
  have hcell : ∃ cell : Cell, H[a]? = some cell ∧ cell.vm.isStatics = false ∧ s.vm.findClass y.cls = some cell.cls := by
    obtain ⟨cell, h1, h2, h3, -⟩ := hE.kept hS.2.1
    exact ⟨cell, h1, h2, h3⟩
  refine g_after (free := A_W w) (va_runV (As := As) (rest := rest) (b := a) (C := y.cls) (Ts := wAll) (cc := cc) (nL := nL) ⟨hx, hb, hml, hown, hts⟩ hM (cwV nA hts ?_ rfl rfl rfl ⟨rfl, hY.2.2⟩ ⟨?_, ?_⟩) ⟨wI_blind, hcell, fun U hU hW => ⟨rfl, wI_go hK hB hkw hP hS hU hW⟩⟩ rfl hA hl.1 rfl (lv_room (by have := rest_sum rest; omega)) hd ⟨by rw [hR]; exact Nat.le_of_ble_eq_true hk0, by rw [hR]; exact Nat.le_of_ble_eq_true hn0⟩) hl hS k
  · intro x hx
    have hg := good_call hY
    rcases List.mem_append.mp hx with h | h
    · have e4 : x ∈ wAll := by
        rcases List.mem_cons.mp h with rfl | h
        · exact hlk
        rcases List.mem_cons.mp h with rfl | h
        · exact hin
        rcases List.mem_cons.mp h with rfl | h
        · exact hsel
        rcases List.mem_cons.mp h with rfl | h
        · exact hY.2.1
        · cases h
      exact ⟨e4, good_of_word (wAll_good e4)⟩
    · exact hg x h
  · rw [hR]
    exact hNN
  · rw [hR]
    show 8 + (maxL + 11) + 40 * n2 ≤ 40 * N
    omega
/-- a static of which only that it is a reference or null is said -/
theorem g_getsq (C : gC w p s m args c cc nL own) {o n dsc : String} {ix : Nat} (hE : va_Zq o n dsc (A_W w) s s.heap) (hk : Cond.fieldLink own ix o n dsc ∈ wAll) (hd : decode cc pc = .ok (.getstatic ix, 3)) (k : ∀ v : Value, v = .null ∨ (∃ t, v = .ref t) → gG w p l e R s m args below meth c nL k0 n0 Q d lv (pc + 3) (v :: st)) : gG w p l e R s m args below meth c nL k0 n0 Q d lv pc st := by
  rcases hE with h | ⟨t, h⟩
  · exact g_gets C h hk hd (k _ (Or.inl rfl))
  · exact g_gets C h hk hd (k _ (Or.inr ⟨t, rfl⟩))
end GK2
