/-! 09zc: the constants of the launch, the classes' numbers: a world w for the start -/
def fl2 : Cond → List Cond → List Cond
  | .and a b, acc => fl2 a (fl2 b acc)
  | c, acc => c :: acc
theorem fl2_all {args : Array Value} {s : State} : ∀ (T : Cond) (acc : List Cond), T.before args s = true → (∀ c ∈ acc, c.before args s = true) → ∀ c ∈ fl2 T acc, c.before args s = true := by
  intro T
  induction T with
  | and a b iha ihb =>
    intro acc h hacc c hc
    rw [Cond.before_and, Bool.and_eq_true] at h
    exact iha _ h.1 (ihb _ h.2 hacc) c hc
  | _ =>
    intro acc h hacc c hc
    rcases List.mem_cons.mp hc with rfl | hc
    · exact h
    · exact hacc c hc
def nT : List Cond := fl2 (Jvm.Cond.and given_1 narrow_1) []
theorem nT_all {args : Array Value} {s : State} (h : (Jvm.Cond.and given_1 narrow_1).before args s = true) : ∀ c ∈ nT, c.before args s = true := fl2_all _ _ h (fun _ h => nomatch h)
def strT (i : Nat) : Term := .string (kq i).1 (kq i).2.1
def strV (i : Nat) : Term := .field (strT i) "java/lang/String" "value" "[B"
def strC (i : Nat) : List Cond := [.exactly (strT i) "java/lang/String", .eq (.field (strT i) "java/lang/String" "coder" "B") (.int 0), .arrayOf (strV i) .byte, .eq (.length (strV i)) (.int (Int32.ofNat (sL i)))] ++ (List.range (sL i)).map (fun j => .eq (.elem (strV i) (.int (Int32.ofNat j))) (.int (sB i j)))
theorem str_1 : (nT.drop 202).take 439 = (List.range 18).flatMap strC := by decide +kernel
theorem str_2 : (nT.drop 642).take 248 = ((List.range 12).map (· + 18)).flatMap strC := by decide +kernel
theorem str_3 : (nT.drop 892).take 186 = ((List.range 24).map (· + 30)).flatMap strC := by decide +kernel
theorem str_in {i : Nat} (hi : i < 54) {x : Cond} (hx : x ∈ strC i) : x ∈ nT := by
  by_cases h1 : i < 18
  · have h : x ∈ (nT.drop 202).take 439 := by
      rw [str_1]
      exact List.mem_flatMap.mpr ⟨i, List.mem_range.mpr h1, hx⟩
    exact List.mem_of_mem_drop (List.mem_of_mem_take h)
  · by_cases h2 : i < 30
    · have h : x ∈ (nT.drop 642).take 248 := by
        rw [str_2]
        exact List.mem_flatMap.mpr ⟨i, List.mem_map.mpr ⟨i - 18, List.mem_range.mpr (by omega), by omega⟩, hx⟩
      exact List.mem_of_mem_drop (List.mem_of_mem_take h)
    · have h : x ∈ (nT.drop 892).take 186 := by
        rw [str_3]
        exact List.mem_flatMap.mpr ⟨i, List.mem_map.mpr ⟨i - 30, List.mem_range.mpr (by omega), by omega⟩, hx⟩
      exact List.mem_of_mem_drop (List.mem_of_mem_take h)
def srI : List Nat := [698, 783, 799, 810, 844, 866, 871, 891, 907, 919, 930, 943, 1060, 1108, 1155, 1200, 1226, 1243, 1245, 1268, 1285, 1298, 1382, 1415, 1429, 1437, 1452, 1460, 1468, 1785, 1880, 1886, 1895, 1900, 1901, 1902, 1903, 1904, 1994, 1995, 2003, 2004, 2005, 2006, 2007, 2008, 2009, 2010, 2011, 2012, 2013, 2014, 2015, 2016]
theorem sr_in : ∀ i, i < 54 → lw_tbl[srI.getD i 0]? = some (Cond.stringRef (kq i).1 (kq i).2.1 (kq i).2.2) := by decide +kernel
theorem sL_lt : ∀ i, i < 54 → sL i < 2 ^ 31 := by decide +kernel
def strP (s : State) (A : Nat → Prop) (i : Nat) (q : Nat × Nat) : Prop := vk_R (kq i).1 (kq i).2.1 (kq i).2.2 q.1 s ∧ va_O "java/lang/String" q.1 A s s.heap ∧ va_OF "java/lang/String" "coder" "B" (.int 0) q.1 A s s.heap ∧ va_OF "java/lang/String" "value" "[B" (.ref q.2) q.1 A s s.heap ∧ va_T .byte q.2 (sL i) (fun j => .int (sB i j)) A s s.heap
theorem str_at {args : Array Value} {s : State} {A : Nat → Prop} (hn : ∀ c ∈ nT, c.before args s = true) (ht : ∀ c ∈ lw_tbl, c.before args s = true) (hA : ∀ a : Nat, a < s.heap.size → ¬ A a) {i : Nat} (hi : i < 54) : ∃ q : Nat × Nat, strP s A i q := by
  have c1 : ∀ x, x ∈ strC i → x.before args s = true := fun x hx => hn x (str_in hi hx)
  obtain ⟨adK, adV, h1, h2⟩ := vk_Sof (args := args) (s := s) (N := 1) (tm := fun _ => strT i) (len := [sL i]) (byt := [kB.getD i []]) (A := A)
    (fun k hk => by rw [show k = 0 by omega]; exact sL_lt i hi)
    (fun k hk => c1 _ (by unfold strC; simp))
    (fun k hk => c1 _ (by unfold strC; simp))
    (fun k hk => c1 _ (by unfold strC strV; simp))
    (fun k hk => by rw [show k = 0 by omega]; exact c1 _ (by unfold strC strV; simp))
    (fun k hk j hj => by
      rw [show k = 0 by omega] at hj ⊢
      exact c1 _ (List.mem_append_right _ (List.mem_map.mpr ⟨j, List.mem_range.mpr hj, rfl⟩)))
    (fun a b ha hb hab => absurd (show a = b by omega) hab) hA
  obtain ⟨g1, g2, g3, g4⟩ := h1.1 0 (by decide)
  have e2 := h2 0 (by decide)
  exact ⟨(adK 0, adV 0), vk_R.of (A := args) (ht _ (List.mem_of_getElem? (sr_in i hi))) e2, g1, g2, g3, g4⟩
def kn (k : Nat) : String := (["LANTERN", "FILE", "CANCEL", "SAY", "DROP", "ADMIT", "FREE", "WAIT"] : List String).getD k ""
def knT (k : Nat) : Term := .static "LanternCourt$Kind" (kn k) "LLanternCourt$Kind;"
def kindC (k : Nat) : List Cond := [.exactly (knT k) "LanternCourt$Kind", .eq (.field (knT k) "java/lang/Enum" "ordinal" "I") (.int (Int32.ofNat k)), .eq (.field (knT k) "LanternCourt$Kind" "keyword" "Ljava/lang/String;") (strT (kwS k)), .eq (.field (knT k) "LanternCourt$Kind" "form" "Ljava/lang/String;") (strT (fmS k))]
def kdT : Term := .static "LanternCourt" "KINDS" "[LLanternCourt$Kind;"
def smT : Term := .static "LanternCourt$1" "$SwitchMap$LanternCourt$Kind" "[I"
def restC : List Cond := [.isRef (.static "java/lang/Throwable" "UNASSIGNED_STACK" "[Ljava/lang/StackTraceElement;"), .isRef (.static "java/lang/Throwable" "SUPPRESSED_SENTINEL" "Ljava/util/List;"), .eq (.static "java/lang/String" "COMPACT_STRINGS" "Z") (.int 1), .isRef (.static "jdk/internal/util/Preconditions" "SIOOBE_FORMATTER" "Ljava/util/function/BiFunction;"), .arrayOf kdT (.object "LanternCourt$Kind"), .eq (.length kdT) (.int 8), .arrayOf smT .int, .eq (.length smT) (.int 8)] ++ ((List.range 8).map (fun j => .eq (.elem kdT (.int (Int32.ofNat j))) (knT j)) ++ ((List.range 8).map (fun j => .eq (.elem smT (.int (Int32.ofNat j))) (.int (smS j))) ++ (ncP.map (fun q => .not (.castable q.1 q.2)) ++ (List.range 8).flatMap kindC)))
theorem rest_all : restC.all (fun x => decide (x ∈ nT)) = true := by decide +kernel
theorem rest_in {x : Cond} (h : x ∈ restC) : x ∈ nT := of_decide_eq_true (List.all_eq_true.mp rest_all x h)
theorem rest_kd {j : Nat} (h : j < 8) : Cond.eq (.elem kdT (.int (Int32.ofNat j))) (knT j) ∈ restC := List.mem_append_right _ (List.mem_append_left _ (List.mem_map.mpr ⟨j, List.mem_range.mpr h, rfl⟩))
theorem rest_sm {j : Nat} (h : j < 8) : Cond.eq (.elem smT (.int (Int32.ofNat j))) (.int (smS j)) ∈ restC := List.mem_append_right _ (List.mem_append_right _ (List.mem_append_left _ (List.mem_map.mpr ⟨j, List.mem_range.mpr h, rfl⟩)))
theorem rest_nc {q : String × String} (h : q ∈ ncP) : Cond.not (.castable q.1 q.2) ∈ restC := List.mem_append_right _ (List.mem_append_right _ (List.mem_append_right _ (List.mem_append_left _ (List.mem_map.mpr ⟨q, h, rfl⟩))))
theorem rest_k {k : Nat} (h : k < 8) {x : Cond} (hx : x ∈ kindC k) : x ∈ restC := List.mem_append_right _ (List.mem_append_right _ (List.mem_append_right _ (List.mem_append_right _ (List.mem_flatMap.mpr ⟨k, List.mem_range.mpr h, hx⟩))))
theorem arrOverA {s : State} (h : va_AOA .int s) : ∃ c k comp, s.vm.classes[c]? = some k ∧ k.kind = .array comp (.array .int) ∧ s.vm.findClass ("[" ++ (FieldType.array .int).toString) = some c := by
  unfold va_AOA Cond.before at h
  simp only [Cond.holds, Cond.value, beq_iff_eq, Option.bind_eq_some_iff, Option.map_eq_some_iff] at h
  obtain ⟨comp, h1, c, hi, k, hk, hb⟩ := h
  cases hkind : k.kind with
  | array component ty =>
    rw [hkind] at hb
    simp at hb
    exact ⟨c, k, component, hk, by rw [hkind, hb.1], hb.2⟩
  | _ => rw [hkind] at hb; simp at hb
theorem arrCl {args : Array Value} {s : State} {ty : FieldType} (h : (Cond.arrayClass ty).before args s = true) : ∃ cA, s.vm.findClass ("[" ++ ty.toString) = some cA ∧ ArrOfT s cA ty := by
  obtain ⟨cA, kA, comp, h1, h2, h3⟩ := Cond.arrayClass_spec h
  exact ⟨cA, h1, fun n z => ⟨fun k h => (by cases h), kA, h2, comp, h3⟩⟩
theorem tb_at {args : Array Value} {s : State} (ht : ∀ c ∈ lw_tbl, c.before args s = true) (i : Nat) {x : Cond} (h : lw_tbl[i]? = some x) : x.before args s = true := ht x (List.mem_of_getElem? h)

set_option maxHeartbeats 4000000 in
theorem cls_at {args : Array Value} {s : State} (ht : ∀ c ∈ lw_tbl, c.before args s = true) : ∃ D : va_G, ∀ (k : Nat) (q : vw_C), vwQ[k]? = some q → u_Kn s q.1 q.2.1 q.2.2 (D.1 k) (D.2 k) := by
  obtain ⟨c0, i0, h0⟩ := u_known (C := RJ0) (T := TJ0) (N := 2) (n := 4) ht ck_0.2.2.1 (tb_at ht 756 (by decide +kernel))
  obtain ⟨c1, i1, h1⟩ := u_known (C := RJ0) (T := TJ0) (N := 2) (n := 4) ht ck_0.2.2.1 (tb_at ht 756 (by decide +kernel))
  obtain ⟨c2, i2, h2⟩ := u_known (C := RX1) (T := TX1) (N := 7) (n := 7) ht ck_2.2.2.1 (tb_at ht 149 (by decide +kernel))
  obtain ⟨c3, i3, h3⟩ := u_known (C := RX2) (T := TX2) (N := 5) (n := 5) ht ck_3.2.2.1 (tb_at ht 283 (by decide +kernel))
  obtain ⟨c4, i4, h4⟩ := u_known (C := RX3) (T := TX3) (N := 7) (n := 7) ht ck_4.2.2.1 (tb_at ht 318 (by decide +kernel))
  obtain ⟨c5, i5, h5⟩ := u_known (C := RX5) (T := TX5) (N := 5) (n := 5) ht ck_5.2.2.1 (tb_at ht 116 (by decide +kernel))
  obtain ⟨c6, i6, h6⟩ := u_known (C := RX6) (T := TX6) (N := 2) (n := 2) ht ck_6.2.2.1 (tb_at ht 353 (by decide +kernel))
  obtain ⟨c7, i7, h7⟩ := u_known (C := RX7) (T := TX7) (N := 5) (n := 5) ht ck_7.2.2.1 (tb_at ht 258 (by decide +kernel))
  obtain ⟨c8, i8, h8⟩ := u_known (C := RX8) (T := TX8) (N := 9) (n := 9) ht ck_8.2.2.1 (tb_at ht 110 (by decide +kernel))
  obtain ⟨c9, i9, h9⟩ := u_known (C := RX9) (T := TX9) (N := 4) (n := 4) ht ck_9.2.2.1 (tb_at ht 191 (by decide +kernel))
  obtain ⟨c10, i10, h10⟩ := u_known (C := RX10) (T := TX10) (N := 2) (n := 2) ht ck_10.2.2.1 (tb_at ht 305 (by decide +kernel))
  obtain ⟨c11, i11, h11⟩ := u_known (C := RX11) (T := TX11) (N := 14) (n := 14) ht ck_11.2.2.1 (tb_at ht 102 (by decide +kernel))
  obtain ⟨c12, i12, h12⟩ := u_known (C := RX12) (T := TX12) (N := 17) (n := 17) ht ck_12.2.2.1 (tb_at ht 1470 (by decide +kernel))
  refine ⟨(fun k => [c0, c1, c2, c3, c4, c5, c6, c7, c8, c9, c10, c11, c12].getD k c0, fun k => [i0, i1, i2, i3, i4, i5, i6, i7, i8, i9, i10, i11, i12].getD k i0), ?_⟩
  intro k q hq
  match k, hq with
  | 0, hq => cases hq; exact h0
  | 1, hq => cases hq; exact h1
  | 2, hq => cases hq; exact h2
  | 3, hq => cases hq; exact h3
  | 4, hq => cases hq; exact h4
  | 5, hq => cases hq; exact h5
  | 6, hq => cases hq; exact h6
  | 7, hq => cases hq; exact h7
  | 8, hq => cases hq; exact h8
  | 9, hq => cases hq; exact h9
  | 10, hq => cases hq; exact h10
  | 11, hq => cases hq; exact h11
  | 12, hq => cases hq; exact h12
  | k + 13, hq => simp [vwQ] at hq
theorem kind_at {args : Array Value} {s : State} {A : Nat → Prop} (hn : ∀ c ∈ nT, c.before args s = true) (hA : ∀ a : Nat, a < s.heap.size → ¬ A a) {ad : Nat → Nat × Nat} (had : ∀ i, i < 54 → strP s A i (ad i)) (hae : ∀ i, i < 54 → (strT i).eval args s none [] s = some (.ref (ad i).1)) {k : Nat} (hk : k < 8) : ∃ q : Nat, (knT k).eval args s none [] s = some (.ref q) ∧ va_O "LanternCourt$Kind" q A s s.heap ∧ va_OF "java/lang/Enum" "ordinal" "I" (.int (Int32.ofNat k)) q A s s.heap ∧ va_OF "LanternCourt$Kind" "keyword" "Ljava/lang/String;" (.ref (ad (kwS k)).1) q A s s.heap ∧ va_OF "LanternCourt$Kind" "form" "Ljava/lang/String;" (.ref (ad (fmS k)).1) q A s s.heap := by
  have c1 : ∀ x, x ∈ kindC k → x.before args s = true := fun x hx => hn x (rest_in (rest_k hk hx))
  have hex : (Cond.exactly (knT k) "LanternCourt$Kind").before args s = true := c1 _ (by unfold kindC; simp)
  obtain ⟨a, c, cA, kA, q1, -⟩ := Cond.exactly_spec (args := args) (first := s) (o := none) (s := s) (idx := []) (t := knT k) (cls := "LanternCourt$Kind") hex
  refine ⟨a, q1, va_Oof hex q1 hA, vk_OFof q1 (va_eqt (c1 _ (by unfold kindC; simp))) hA, vk_OFof q1 (va_eqv (c1 _ (by unfold kindC; simp)) (hae _ (by unfold kwS; omega))) hA, vk_OFof q1 (va_eqv (c1 _ (by unfold kindC; simp)) (hae _ (by unfold fmS; omega))) hA⟩

set_option maxHeartbeats 4000000 in
theorem exW {p : Program} {s : State} {m : MethodId} {meth : Method} {c : Code} {b L : Nat} {xs : Nat → Int32} (C0 : lw_At p s m meth c b L xs) : ∃ w : wT, w_B w = s.heap.size ∧ va_K (w_G w) vwQ (tyW w) s ∧ kW w s s.heap ∧ arK s := by
  obtain ⟨-, -, -, -, -, ht, -, -, -, hgv⟩ := C0
  have hn := nT_all hgv
  have hA : ∀ a : Nat, a < s.heap.size → ¬ (fun q : Nat => s.heap.size ≤ q) a := fun a h => Nat.not_le.mpr h
  have hao : va_AOA .int s := va_AOA.of (tb_at ht 122 (by decide +kernel))
  have hao2 : va_AO "LanternCourt$State" s := va_AO.of (tb_at ht 256 (by decide +kernel))
  obtain ⟨D, hD⟩ := cls_at ht
  obtain ⟨t0, g0, r0⟩ := arrCl (ty := .int) (tb_at ht 147 (by decide +kernel))
  obtain ⟨t1, g1, r1⟩ := arrCl (ty := .char) (tb_at ht 351 (by decide +kernel))
  obtain ⟨t2, g2, r2⟩ := arrCl (ty := .boolean) (tb_at ht 218 (by decide +kernel))
  obtain ⟨comp3, t3, k3, f31, f32, f33, f34, f35⟩ := Cond.arrayOver_spec hao2
  obtain ⟨t4, k4, comp4, f41, f42, f43⟩ := arrOverA hao
  obtain ⟨t5, g5, r5⟩ := arrCl (ty := .long) (tb_at ht 1964 (by decide +kernel))
  obtain ⟨t6, g6, r6⟩ := arrCl (ty := .double) (tb_at ht 1965 (by decide +kernel))
  have hs0 : ∀ i : Nat, ∃ q : Nat × Nat, i < 54 → strP s (fun q : Nat => s.heap.size ≤ q) i q := fun i => by
    by_cases h : i < 54
    · obtain ⟨q, hq⟩ := str_at hn ht hA h
      exact ⟨q, fun _ => hq⟩
    · exact ⟨(0, 0), fun h' => absurd h' h⟩
  obtain ⟨ad, had⟩ := Classical.axiomOfChoice hs0
  have hae : ∀ i, i < 54 → (strT i).eval #[Value.ref b] s none [] s = some (.ref (ad i).1) := fun i hi => (had i hi).1.2
  have hk0 : ∀ k : Nat, ∃ q : Nat, k < 8 → (knT k).eval #[Value.ref b] s none [] s = some (.ref q) ∧ va_O "LanternCourt$Kind" q (fun q : Nat => s.heap.size ≤ q) s s.heap ∧ va_OF "java/lang/Enum" "ordinal" "I" (.int (Int32.ofNat k)) q (fun q : Nat => s.heap.size ≤ q) s s.heap ∧ va_OF "LanternCourt$Kind" "keyword" "Ljava/lang/String;" (.ref (ad (kwS k)).1) q (fun q : Nat => s.heap.size ≤ q) s s.heap ∧ va_OF "LanternCourt$Kind" "form" "Ljava/lang/String;" (.ref (ad (fmS k)).1) q (fun q : Nat => s.heap.size ≤ q) s s.heap := fun k => by
    by_cases h : k < 8
    · obtain ⟨q, hq⟩ := kind_at hn hA had hae h
      exact ⟨q, fun _ => hq⟩
    · exact ⟨0, fun h' => absurd h' h⟩
  obtain ⟨ak, hak⟩ := Classical.axiomOfChoice hk0
  have hr : ∀ x, x ∈ restC → x.before #[Value.ref b] s = true := fun x hx => hn x (rest_in hx)
  obtain ⟨qK, eK, hTK⟩ := va_Tof (args := #[Value.ref b]) (s := s) (tm := kdT) (ty := .object "LanternCourt$Kind") (N := 8) (f := fun j => .ref (ak j)) (A := fun q : Nat => s.heap.size ≤ q) (by decide) (hr _ (by unfold restC; simp)) (va_eqt (hr _ (by unfold restC; simp))) (fun j hj => va_eqv (hr _ (rest_kd hj)) (hak j hj).1) hA
  obtain ⟨qM, eM, hTM⟩ := va_Tof (args := #[Value.ref b]) (s := s) (tm := smT) (ty := .int) (N := 8) (f := fun j => .int (smS j)) (A := fun q : Nat => s.heap.size ≤ q) (by decide) (hr _ (by unfold restC; simp)) (va_eqt (hr _ (by unfold restC; simp))) (fun j hj => va_eqt (hr _ (rest_sm hj))) hA
  let wk : Nat → Nat := fun i => if i < 54 then (ad i).1 else if i < 200 then (ad (i - 100)).2 else if i < 300 then ak (i - 200) else if i = 300 then qK else qM
  let wc : Nat → ClassId := fun i => if i = 20 then t0 else if i = 21 then t1 else if i = 22 then t2 else if i = 23 then t3 else if i = 24 then t4 else if i = 25 then t5 else t6
  refine ⟨(fun _ => 0, D, wc, wk, s.heap.size), rfl, ⟨hD, ?_⟩, ?_, hao, hao2⟩
  · intro k q hq
    match k, hq with
    | 0, hq => cases hq; exact ⟨r0, g0⟩
    | 1, hq => cases hq; exact ⟨r1, g1⟩
    | 2, hq => cases hq; exact ⟨r2, g2⟩
    | 3, hq => cases hq; exact ⟨fun n z => ⟨fun k h => (by cases h), k3, f33, comp3, f34⟩, k3, comp3, f33, f34, f31, f35⟩
    | 4, hq => cases hq; exact ⟨fun n z => ⟨fun k h => (by cases h), k4, f41, comp4, f42⟩, f43⟩
    | 5, hq => cases hq; exact ⟨r5, g5⟩
    | 6, hq => cases hq; exact ⟨r6, g6⟩
    | k + 7, hq => simp [tyW] at hq
  · have e1 : ∀ i, i < 54 → wk i = (ad i).1 := fun i hi => if_pos hi
    have e2 : ∀ i, i < 54 → wk (100 + i) = (ad i).2 := fun i hi => by
      show (if 100 + i < 54 then _ else if 100 + i < 200 then _ else _) = _
      rw [if_neg (by omega), if_pos (by omega), Nat.add_sub_cancel_left]
    have e3 : ∀ k, k < 8 → wk (200 + k) = ak k := fun k hk => by
      show (if 200 + k < 54 then _ else if 200 + k < 200 then _ else if 200 + k < 300 then _ else _) = _
      rw [if_neg (by omega), if_neg (by omega), if_pos (by omega), Nat.add_sub_cancel_left]
    have ekw : ∀ k, wk (kwS k) = (ad (kwS k)).1 := fun k => e1 _ (by unfold kwS; omega)
    have efm : ∀ k, wk (fmS k) = (ad (fmS k)).1 := fun k => e1 _ (by unfold fmS; omega)
    refine ⟨fun i hi => ?_, fun k hk => ?_, ⟨?_, ?_⟩, ⟨?_, ?_⟩, ?_, ?_, ?_, ?_, ?_, ?_, ?_⟩
    · show vk_R _ _ _ (wk i) s ∧ va_O _ (wk i) _ _ _ ∧ va_OF _ _ _ _ (wk i) _ _ _ ∧ va_OF _ _ _ (.ref (wk (100 + i))) (wk i) _ _ _ ∧ va_T _ (wk (100 + i)) _ _ _ _ _
      rw [e1 i hi, e2 i hi]
      exact had i hi
    · show va_O _ (wk (200 + k)) _ _ _ ∧ va_OF _ _ _ _ (wk (200 + k)) _ _ _ ∧ va_OF _ _ _ (.ref (wk (kwS k))) (wk (200 + k)) _ _ _ ∧ va_OF _ _ _ (.ref (wk (fmS k))) (wk (200 + k)) _ _ _
      rw [e3 k hk, ekw, efm]
      exact (hak k hk).2
    · exact va_Zref (tb_at ht 1328 (by decide +kernel)) (tb_at ht 69 (by decide +kernel)) eK hA
    · have h : (fun j => Value.ref (wk (200 + j))) = fun j => if j < 8 then Value.ref (ak j) else Value.ref (wk (200 + j)) := by
        funext j
        by_cases hj : j < 8
        · rw [if_pos hj, e3 j hj]
        · rw [if_neg hj]
      obtain ⟨cell, z1, z2, z3, z4, z5, z6, z7⟩ := hTK
      exact ⟨cell, z1, z2, z3, z4, z5, fun j hj => by rw [z6 j hj]; show _ = some (Value.ref (wk (200 + j))); rw [e3 j hj], z7⟩
    · exact va_Zref (tb_at ht 1398 (by decide +kernel)) (tb_at ht 99 (by decide +kernel)) eM hA
    · exact hTM
    · show va_Z _ _ _ (.ref (wk (200 + 0))) _ _ _
      rw [e3 0 (by decide)]
      exact va_Zref (tb_at ht 324 (by decide +kernel)) (tb_at ht 79 (by decide +kernel)) (hak 0 (by decide)).1 hA
    · exact va_Zof (tb_at ht 957 (by decide +kernel)) (tb_at ht 90 (by decide +kernel)) (va_eqi (hr _ (by unfold restC; simp))) hA
    · exact vx_Zqof (tb_at ht 680 (by decide +kernel)) (tb_at ht 82 (by decide +kernel)) (hr _ (by unfold restC Bundle.tN Bundle.steD; simp)) hA
    · exact vx_Zqof (tb_at ht 682 (by decide +kernel)) (tb_at ht 82 (by decide +kernel)) (hr _ (by unfold restC Bundle.tN Bundle.listD; simp)) hA
    · exact va_Zqof (tb_at ht 996 (by decide +kernel)) (tb_at ht 96 (by decide +kernel)) (hr _ (by unfold restC; simp)) hA
    · intro x hx
      have h1 := List.mem_filter.mp hx
      refine va_Nw.of (A := #[Value.ref b]) ?_ (ht x h1.1)
      have h2 := h1.2
      cases x with
      | castable a b => rfl
      | declares a => rfl
      | fieldLinkNest a b c d e f => rfl
      | methodLinkNest a b c d => rfl
      | _ => cases h2
    · intro q hq
      exact va_Nc.of (args := #[Value.ref b]) (hr _ (rest_nc hq))

