/-! 05m: ordinal of a kind of command, checks of an index, by hand -/
theorem ofNat_of_inb {x : Int32} {n : Nat} (h : inb x n = true) : Int32.ofNat x.toNatClampNeg = x := by
  unfold inb at h
  rw [Bool.and_eq_true, decide_eq_true_eq, decide_eq_true_eq] at h
  have h1 := Int32.le_iff_toInt_le.mp h.1
  apply Int32.toInt_inj.mp
  have h2 := x.toInt_lt
  have h3 : (x.toNatClampNeg : Int) = x.toInt := by
    show ((x.toInt.toNat : Nat) : Int) = x.toInt
    have : (0 : Int32).toInt = 0 := by decide
    omega
  rw [Int32.toInt_ofNat_of_lt (by omega), h3]
theorem m_ordinal {w : wT} {l : Launch} {x : Int32} {d : Dt} (hO : okW w) (hq : inb x 8 = true) : gM w l yJx29ce0_ordinal_8abf5 cJx29ce0_ordinal_8abf5 1 (some .int) 0 [.ref (w_k w (200 + x.toNatClampNeg))] d d (some (.int x)) := by
  refine gM_of (by decide) [(0, .ref (w_k w (200 + x.toNatClampNeg)))] rfl rfl ?_ hO
  intro p e R s m args below meth c C hR hr hlk
  refine g_aload_n C dJx29ce0_ordinal_8abf5_0 0 rfl ?_
  refine g_getO C (kk_ord C hq) (wA 1993 (by decide +kernel) (by decide +kernel)) dJx29ce0_ordinal_8abf5_1 ?_
  exact g_iret C hr hlk rfl rfl (by rw [ofNat_of_inb hq]) dJx29ce0_ordinal_8abf5_4
section GK4
variable {w : wT} {p : Program} {l : Launch} {e : Env} {R : Room} {s : State} {m : MethodId} {args : Array Value} {below : List Frame} {meth : Method} {c : Code} {cc : ByteArray} {nL k0 n0 : Nat} {own : String} {Q : State → Prop} {d : Dt} {lv : List (Nat × Value)} {pc : Nat} {st : List Value}
def yKord : MethodName := ⟨"LanternCourt$Kind", "ordinal", "()I"⟩
theorem ord_good : GoodIn wAll (va_wsU RX11 492 "LanternCourt$Kind" "java/lang/Enum" yKord yJx29ce0_ordinal_8abf5 (Cond.code yJx29ce0_ordinal_8abf5 cJx29ce0_ordinal_8abf5 1 (some .int) :: wAll)) := by
  intro x hx
  have e4 : x ∈ wAll := by
    rcases List.mem_cons.mp hx with rfl | h
    · exact wA 1399 (by decide +kernel) (by decide +kernel)
    rcases List.mem_cons.mp h with rfl | h
    · exact wA 1400 (by decide +kernel) (by decide +kernel)
    rcases List.mem_cons.mp h with rfl | h
    · exact wA 1402 (by decide +kernel) (by decide +kernel)
    rcases List.mem_cons.mp h with rfl | h
    · exact wA 1403 (by decide +kernel) (by decide +kernel)
    rcases List.mem_cons.mp h with rfl | h
    · exact wA 78 (by decide +kernel) (by decide +kernel)
    rcases List.mem_cons.mp h with rfl | h
    · exact wA 1404 (by decide +kernel) (by decide +kernel)
    · exact h
  exact ⟨e4, good_of_word (wAll_good e4)⟩
theorem g_ord (C : gC w p s m args c cc nL RX11) {N : Nat} {x : Int32} (hq : inb x 8 = true) {mcR msR : Nat} (hR : R = gRmX N mcR msR) (hN : Nat.ble 1 N = true) (hr : Nat.ble st.length 4 = true) (hd : decode cc pc = .ok (.invokevirtual 492, 3)) (hk0 : Nat.ble k0 mcR = true) (hn0 : Nat.ble n0 msR = true) (k : gG w p l e R s m args below meth c nL k0 n0 Q d lv (pc + 3) (.int x :: st)) : gG w p l e R s m args below meth c nL k0 n0 Q d lv pc (.ref (w_k w (200 + x.toNatClampNeg)) :: st) := by
  intro H locs ls hl hP hS
  have hE := kk_obj C hq
  obtain ⟨hx, hb, hml, hown, hts, hK, hO, hB, hkw⟩ := C
  have hNN := Nat.le_of_ble_eq_true hN
  have hrr := Nat.le_of_ble_eq_true hr
  have hcell : ∃ cell : Cell, H[w_k w (200 + x.toNatClampNeg)]? = some cell ∧ cell.vm.isStatics = false ∧ s.vm.findClass "LanternCourt$Kind" = some cell.cls := by
    obtain ⟨cell, h1, h2, h3, -⟩ := hE.kept hS.2.1
    exact ⟨cell, h1, h2, h3⟩
  refine g_after (free := A_W w) (va_runU (As := []) (rest := st) (Ts := wAll) (cc := cc) (nL := nL) ⟨hx, hb, hml, hown, hts⟩ (m_ordinal (l := l) (d := d) hO hq) (va_cwU 0 hts ord_good rfl rfl rfl rfl (by decide +kernel) ⟨?_, ?_⟩) ⟨wI_blind, hcell, fun U hU hW => ⟨rfl, wI_go hK hB hkw hP hS hU hW⟩⟩ rfl rfl hl.1 rfl (lv_room (by have := rest_sum st; omega)) hd ⟨by rw [hR]; exact Nat.le_of_ble_eq_true hk0, by rw [hR]; exact Nat.le_of_ble_eq_true hn0⟩) hl hS k
  · rw [hR]
    exact hNN
  · rw [hR]
    show 8 + (1 + 11) + 40 * 0 ≤ 40 * N
    omega
end GK4
theorem m_JPcheckIndex {w : wT} {l : Launch} {x0 x1 : Int32} {d : Dt} {z : Value} (hz : z = .null ∨ ∃ t, z = .ref t) (hO : okW w) (h1 : ¬ x0 < 0) (h2 : x0 < x1) : gM w l yJ3_checkIndex_8e157 cJ3_checkIndex_8e157 3 (some .int) 0 [.int x0, .int x1, z] d d (some (.int x0)) := by
  rcases hz with rfl | ⟨t, rfl⟩
  · refine gM_of (by decide) [(0, .int x0), (1, .int x1), (2, .null)] rfl rfl ?_ hO
    intro p e R s m args below meth c C hR hr hlk
    refine g_iload_n C dJ3_checkIndex_8e157_0 0 rfl ?_
    refine g_if_lt C dJ3_checkIndex_8e157_1 (tgt := 9) rfl (fun q => absurd q h1) (fun q => ?_)
    refine g_iload_n C dJ3_checkIndex_8e157_4 0 rfl ?_
    refine g_iload_n C dJ3_checkIndex_8e157_5 1 rfl ?_
    refine g_icmp_lt C dJ3_checkIndex_8e157_6 (tgt := 16) rfl (fun q => ?_) (fun q => absurd h2 q)
    refine g_iload_n C dJ3_checkIndex_8e157_16 0 rfl ?_
    exact g_iret C hr hlk rfl rfl rfl dJ3_checkIndex_8e157_17
  · refine gM_of (by decide) [(0, .int x0), (1, .int x1), (2, .ref t)] rfl rfl ?_ hO
    intro p e R s m args below meth c C hR hr hlk
    refine g_iload_n C dJ3_checkIndex_8e157_0 0 rfl ?_
    refine g_if_lt C dJ3_checkIndex_8e157_1 (tgt := 9) rfl (fun q => absurd q h1) (fun q => ?_)
    refine g_iload_n C dJ3_checkIndex_8e157_4 0 rfl ?_
    refine g_iload_n C dJ3_checkIndex_8e157_5 1 rfl ?_
    refine g_icmp_lt C dJ3_checkIndex_8e157_6 (tgt := 16) rfl (fun q => ?_) (fun q => absurd h2 q)
    refine g_iload_n C dJ3_checkIndex_8e157_16 0 rfl ?_
    exact g_iret C hr hlk rfl rfl rfl dJ3_checkIndex_8e157_17
def f_JS_checkIndex (x0 x1 : Int32) (_ : Dt) : Option Unit := if x0 < 0 then none else if x0 < x1 then some () else none
theorem m_JS_checkIndex {w : wT} {l : Launch} {x0 x1 : Int32} {d : Dt} (hO : okW w) (h : f_JS_checkIndex x0 x1 d = some ()) : gM w l yJ0_checkIndex_df160 cJ0_checkIndex_df160 2 none 1 [.int x0, .int x1] d d none := by
  unfold f_JS_checkIndex at h
  by_cases h1 : x0 < 0
  · rw [if_pos h1] at h; cases h
  rw [if_neg h1] at h
  by_cases h2 : x0 < x1
  · refine gM_of (by decide) [(0, .int x0), (1, .int x1)] rfl rfl ?_ hO
    intro p e R s m args below meth c C hR hr hlk
    refine g_iload_n C dJ0_checkIndex_df160_0 0 rfl ?_
    refine g_iload_n C dJ0_checkIndex_df160_1 1 rfl ?_
    refine g_getsq C (k_siob C) (wA 995 (by decide +kernel) (by decide +kernel)) dJ0_checkIndex_df160_2 (fun z hz => ?_)
    refine g_callSi C (nA := 3) ⟨⟨wA 1346 (by decide +kernel) (by decide +kernel), wA 96 (by decide +kernel) (by decide +kernel), by decide, by decide, by decide +kernel⟩, by decide, wA 1344 (by decide +kernel) (by decide +kernel), wA 1345 (by decide +kernel) (by decide +kernel)⟩ hR rfl (m_JPcheckIndex hz hO h1 h2) rfl rfl rfl dJ0_checkIndex_df160_5 rfl rfl ?_
    refine g_pop C dJ0_checkIndex_df160_8 rfl ?_
    exact g_vret C hr hlk rfl rfl dJ0_checkIndex_df160_9
  · rw [if_neg h2] at h; cases h
