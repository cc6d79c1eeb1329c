/-! 04: THE WORLD OF THIS CLAIM: 302 cells that the constructors make, one data heap Dt for all that changes in them, and the judgement gG over the kit's W -/
/-- the classes of our world; the second place is free (no word of the tables lays the fields of Kind) -/
abbrev vwQ : List vw_C := [(RJ0, TJ0, 2), (RJ0, TJ0, 2), (RX1, TX1, 7), (RX2, TX2, 5), (RX3, TX3, 7), (RX5, TX5, 5), (RX6, TX6, 2), (RX7, TX7, 5), (RX8, TX8, 9), (RX9, TX9, 4), (RX10, TX10, 2), (RX11, TX11, 14), (RX12, TX12, 17)]
abbrev Dt : Type := Nat → Nat → Int32
def wrf (d : Dt) (k : Nat) (f : Nat → Int32) : Dt := fun k' => if k' = k then f else d k'
def wr (d : Dt) (k j : Nat) (v : Int32) : Dt := wrf d k (upd (d k) j v)
theorem wrf_s {d : Dt} {k : Nat} {f : Nat → Int32} : wrf d k f k = f := if_pos rfl
theorem wrf_n {d : Dt} {k k' : Nat} {f : Nat → Int32} (h : k' ≠ k) : wrf d k f k' = d k' := if_neg h
/-- the kind and the length of each cell: below 20 the place of its class in vwQ, from 20 on a row -/
def shSL : List (Nat × Nat) := [(8, 0), (5, 0), (20, 8), (20, 8), (20, 8), (24, 8), (20, 8), (20, 8), (20, 8), (20, 8), (20, 8), (20, 8), (20, 8), (20, 8), (2, 0), (20, 10), (20, 10), (20, 10), (20, 10), (20, 10), (9, 0), (20, 12), (20, 12), (22, 12), (20, 4)]
def shS (o : Nat) : Nat × Nat := shSL.getD o (20, 0)
def shBL : List (Nat × Nat) := [(7, 0), (20, 10), (20, 10), (20, 13), (3, 0), (20, 8), (20, 8), (22, 8), (20, 8), (10, 0), (4, 0), (21, 60), (20, 4), (6, 0), (21, 128), (12, 0), (20, 187), (20, 1496), (20, 187), (20, 187), (20, 60), (21, 60), (20, 155), (25, 1), (26, 1)]
def sh (k : Nat) : Nat × Nat := cond (Nat.ble 277 k) (shBL.getD (k - 277) (20, 0)) (cond (Nat.ble 2 k) (shS ((k - 2) % 25)) (cond (Nat.beq k 0) (11, 0) (23, 8)))
/-- the static part: the cells' addresses, the classes' ids, the rows' ids, the constants' addresses, the first address of ours -/
abbrev wT : Type := (Nat → Nat) × va_G × (Nat → ClassId) × (Nat → Nat) × Nat
def w_r (w : wT) : Nat → Nat := w.1
def w_G (w : wT) : va_G := w.2.1
def w_c (w : wT) : Nat → ClassId := w.2.2.1
def w_k (w : wT) : Nat → Nat := w.2.2.2.1
def w_B (w : wT) : Nat := w.2.2.2.2
def fldsW (ci : Nat) (rf : Nat → Value) (kd : Int32 → Value) (f : Nat → Int32) : List Value := match ci with
  | 2 => [.int (f 0), .int (f 1), rf 1, rf 2, rf 3, rf 4, rf 5]
  | 3 => [.int (f 0), rf 1, rf 2, rf 3, rf 4]
  | 4 => [rf 1, .int (f 1), .int (f 2), kd (f 3), rf 2, .int (f 5), .int (f 6)]
  | 5 => [.int (f 0), rf 1, rf 2, rf 3, rf 4]
  | 6 => [rf 1, .int (f 1)]
  | 7 => [.int (f 0), .int (f 1), rf 1, rf 2, rf 3]
  | 8 => [.int (f 0), rf 1, rf 14, rf 20, .int (f 4), .int (f 5), rf 24, .int (f 7), .int (f 8)]
  | 9 => [.int (f 0), rf 1, rf 2, rf 3]
  | 10 => [.int (f 0), .int (f 1)]
  | 11 => [rf 2, rf 27, rf 52, rf 1, rf 277, rf 281, rf 286, rf 287, rf 290, .int (f 9), .int (f 10), .int (f 11), .int (f 12), .int (f 13)]
  | _ => [rf 1, rf 2, rf 3, rf 4, .int (f 4), .int (f 5), .int (f 6), .int (f 7), rf 5, .int (f 9), .int (f 10), .int (f 11), rf 6, .int (f 13), .int (f 14), rf 7, .int (f 16)]
def dblW (lo hi : Int32) : UInt64 := lo.toUInt32.toUInt64 + 4294967296 * hi.toUInt32.toUInt64
def contsW (w : wT) (ci k : Nat) (f : Nat → Int32) : (Nat → Int32) ⊕ (Nat → Int64) ⊕ (Nat → UInt32) ⊕ (Nat → UInt64) ⊕ (Nat → Option Nat) := match ci with
  | 23 => .inr (.inr (.inr (.inr (fun i => some (w_r w (77 + 25 * i))))))
  | 24 => .inr (.inr (.inr (.inr (fun i => some (w_r w (k + 1 + i))))))
  | 25 => .inr (.inl (fun j => (f j).toInt64))
  | 26 => .inr (.inr (.inr (.inl (fun j => dblW (f (2 * j)) (f (2 * j + 1))))))
  | _ => .inl f
def rfW (w : wT) (k : Nat) : Nat → Value := fun o => .ref (w_r w (k + o))
def kdW (w : wT) : Int32 → Value := fun x => .ref (w_k w (200 + x.toNatClampNeg))
def entS (w : wT) (ci n k : Nat) (f : Nat → Int32) : va_E := cond (Nat.ble 20 ci) (.inl (w_c w ci, n, contsW w ci k f)) (.inr (ci, fldsW ci (rfW w k) (kdW w) f))
def entW (w : wT) (d : Dt) (k : Nat) : va_E := entS w (sh k).1 (sh k).2 k (d k)
def wsW (w : wT) (d : Dt) : va_W := (List.range 302).map (fun k => (w_r w k, entW w d k))
theorem wsW_at {w : wT} {d : Dt} {k : Nat} (h : k < 302) : (wsW w d)[k]? = some (w_r w k, entW w d k) := by
  unfold wsW
  rw [List.getElem?_map, List.getElem?_range h]
  rfl
theorem wsW_inv {w : wT} {d : Dt} {i : Nat} {q : Nat × va_E} (h : (wsW w d)[i]? = some q) : i < 302 ∧ q = (w_r w i, entW w d i) := by
  by_cases hi : i < 302
  · rw [wsW_at hi] at h
    exact ⟨hi, (Option.some.inj h).symm⟩
  · unfold wsW at h
    rw [List.getElem?_map, List.getElem?_eq_none (by rw [List.length_range]; omega)] at h
    cases h
theorem wsW_len {w : wT} {d : Dt} : (wsW w d).length = 302 := by
  unfold wsW
  rw [List.length_map, List.length_range]
theorem wsW_set {w : wT} {d d' : Dt} {k : Nat} (hk : k < 302) (h : ∀ j, j ≠ k → d' j = d j) : (wsW w d).set k (w_r w k, entW w d' k) = wsW w d' := by
  apply List.ext_getElem?
  intro i
  by_cases hi : i = k
  · subst hi
    rw [List.getElem?_set_self (by rw [wsW_len]; exact hk), wsW_at hk]
  · rw [List.getElem?_set_ne (Ne.symm hi)]
    by_cases h2 : i < 302
    · rw [wsW_at h2, wsW_at h2]
      unfold entW
      rw [h i hi]
    · rw [List.getElem?_eq_none (by rw [wsW_len]; omega), List.getElem?_eq_none (by rw [wsW_len]; omega)]
/-- the cell k is of kind ci and length n -/
def isC (k ci n : Nat) : Prop := k < 302 ∧ sh k = (ci, n)
theorem entW_eq {w : wT} {d : Dt} {k ci n : Nat} (h : isC k ci n) : entW w d k = entS w ci n k (d k) := by
  unfold entW
  rw [h.2]
theorem wsW_is {w : wT} {d : Dt} {k ci n : Nat} (h : isC k ci n) : (wsW w d)[k]? = some (w_r w k, entS w ci n k (d k)) := by
  rw [wsW_at h.1, entW_eq h]
theorem wsW_put {w : wT} {d : Dt} {k ci n : Nat} {f : Nat → Int32} {e : va_E} (h : isC k ci n) (he : entS w ci n k f = e) : (wsW w d).set k (w_r w k, e) = wsW w (wrf d k f) := by
  have h1 : e = entW w (wrf d k f) k := by
    rw [entW_eq h, wrf_s, he]
  rw [h1]
  exact wsW_set h.1 (fun j hj => wrf_n hj)
/-- a state's 25 cells stand from a on -/
def stB (a : Nat) : Prop := ∀ o, o < 25 → isC (a + o) (shS o).1 (shS o).2
def okW (w : wT) : Prop := (∀ i j, i < 302 → j < 302 → w_r w i = w_r w j → i = j) ∧ ∀ i, i < 302 → w_B w ≤ w_r w i
def A_W (w : wT) : Nat → Prop := fun q => w_B w ≤ q
theorem dW {w : wT} {d : Dt} (h : okW w) : va_D (A_W w) (wsW w d) := by
  refine ⟨fun i j p q hi hj hpq => ?_, fun k q hk => ?_⟩
  · obtain ⟨h1, rfl⟩ := wsW_inv hi
    obtain ⟨h2, rfl⟩ := wsW_inv hj
    exact h.1 i j h1 h2 hpq
  · obtain ⟨h1, rfl⟩ := wsW_inv hk
    exact h.2 k h1
def tyW (w : wT) : List (ClassId × FieldType) := [(w_c w 20, .int), (w_c w 21, .char), (w_c w 22, .boolean), (w_c w 23, .object "LanternCourt$State"), (w_c w 24, .array .int), (w_c w 25, .long), (w_c w 26, .double)]
/-- all words of the tables that a call hands on -/
def wAll : List Cond := lw_tbl.filter goodWord
theorem wAll_in {x : Cond} (h : x ∈ lw_tbl) (g : goodWord x = true) : x ∈ wAll := List.mem_filter.mpr ⟨h, g⟩
theorem wAll_tbl {x : Cond} (h : x ∈ wAll) : x ∈ lw_tbl := (List.mem_filter.mp h).1
theorem wAll_good {x : Cond} (h : x ∈ wAll) : goodWord x = true := (List.mem_filter.mp h).2
def kS : List (String × Nat × String) := [("LanternCourt", 80, "there are 8 lanterns"), ("LanternCourt", 428, "no such lantern"), ("LanternCourt", 105, "days, fee or severity out of range"), ("LanternCourt", 113, "10 briefs wait"), ("LanternCourt", 441, "no brief with this id waits"), ("LanternCourt", 126, "both are the same lantern"), ("LanternCourt", 135, "there are 12 statements"), ("LanternCourt", 436, "no such statement"), ("LanternCourt", 150, "it has admitted the same"), ("LanternCourt", 162, "it has admitted nothing"), ("LanternCourt", 169, "number of days out of range"), ("LanternCourt$State", 79, "gium"), ("LanternCourt", 433, "it serves no sentence"), ("LanternCourt", 216, "no such position"), ("LanternCourt", 239, "not in the plan"), ("LanternCourt", 279, "the statements of the group cannot all be true"), ("LanternCourt", 202, "no such rank"), ("LanternCourt", 312, "gium"), ("LanternCourt", 322, "no such verdict"), ("LanternCourt", 209, "no lanterns"), ("LanternCourt", 333, "no hearing"), ("LanternCourt", 361, "the input buffer holds 60 characters"), ("LanternCourt", 375, "malformed text"), ("LanternCourt", 385, "a command failed"), ("LanternCourt", 388, "no text was malformed"), ("LanternCourt", 390, "no command failed"), ("LanternCourt", 407, "no such character"), ("LanternCourt", 417, "no call can be undone"), ("LanternCourt", 426, "no state was saved"), ("LanternCourtModel", 146, "gium"), ("LanternCourtModel", 189, "antern"), ("LanternCourtModel", 195, "ancel"), ("LanternCourtModel", 200, "ay"), ("LanternCourtModel", 205, "rop"), ("LanternCourtModel", 207, "dmit"), ("LanternCourtModel", 209, "ait"), ("LanternCourtModel", 211, "ee"), ("LanternCourtModel", 213, "ile"), ("LanternCourt$Kind", 55, "lantern"), ("LanternCourt$Kind", 57, ""), ("LanternCourt$Kind", 63, "file"), ("LanternCourt$Kind", 65, " 1 2 2 1"), ("LanternCourt$Kind", 68, "cancel"), ("LanternCourt$Kind", 70, " 3"), ("LanternCourt$Kind", 73, "say"), ("LanternCourt$Kind", 75, " 11+"), ("LanternCourt$Kind", 78, "drop"), ("LanternCourt$Kind", 80, " 2"), ("LanternCourt$Kind", 83, method_8.name), ("LanternCourt$Kind", 85, " 1 g"), ("LanternCourt$Kind", 88, "free"), ("LanternCourt$Kind", 90, " 1"), ("LanternCourt$Kind", 93, "wait"), ("LanternCourt$Kind", 95, "? 1")]
def kB : List (List Int32) := [[116, 104, 101, 114, 101, 32, 97, 114, 101, 32, 56, 32, 108, 97, 110, 116, 101, 114, 110, 115], [110, 111, 32, 115, 117, 99, 104, 32, 108, 97, 110, 116, 101, 114, 110], [100, 97, 121, 115, 44, 32, 102, 101, 101, 32, 111, 114, 32, 115, 101, 118, 101, 114, 105, 116, 121, 32, 111, 117, 116, 32, 111, 102, 32, 114, 97, 110, 103, 101], [49, 48, 32, 98, 114, 105, 101, 102, 115, 32, 119, 97, 105, 116], [110, 111, 32, 98, 114, 105, 101, 102, 32, 119, 105, 116, 104, 32, 116, 104, 105, 115, 32, 105, 100, 32, 119, 97, 105, 116, 115], [98, 111, 116, 104, 32, 97, 114, 101, 32, 116, 104, 101, 32, 115, 97, 109, 101, 32, 108, 97, 110, 116, 101, 114, 110], [116, 104, 101, 114, 101, 32, 97, 114, 101, 32, 49, 50, 32, 115, 116, 97, 116, 101, 109, 101, 110, 116, 115], [110, 111, 32, 115, 117, 99, 104, 32, 115, 116, 97, 116, 101, 109, 101, 110, 116], [105, 116, 32, 104, 97, 115, 32, 97, 100, 109, 105, 116, 116, 101, 100, 32, 116, 104, 101, 32, 115, 97, 109, 101], [105, 116, 32, 104, 97, 115, 32, 97, 100, 109, 105, 116, 116, 101, 100, 32, 110, 111, 116, 104, 105, 110, 103], [110, 117, 109, 98, 101, 114, 32, 111, 102, 32, 100, 97, 121, 115, 32, 111, 117, 116, 32, 111, 102, 32, 114, 97, 110, 103, 101], [103, 105, 117, 109], [105, 116, 32, 115, 101, 114, 118, 101, 115, 32, 110, 111, 32, 115, 101, 110, 116, 101, 110, 99, 101], [110, 111, 32, 115, 117, 99, 104, 32, 112, 111, 115, 105, 116, 105, 111, 110], [110, 111, 116, 32, 105, 110, 32, 116, 104, 101, 32, 112, 108, 97, 110], [116, 104, 101, 32, 115, 116, 97, 116, 101, 109, 101, 110, 116, 115, 32, 111, 102, 32, 116, 104, 101, 32, 103, 114, 111, 117, 112, 32, 99, 97, 110, 110, 111, 116, 32, 97, 108, 108, 32, 98, 101, 32, 116, 114, 117, 101], [110, 111, 32, 115, 117, 99, 104, 32, 114, 97, 110, 107], [103, 105, 117, 109], [110, 111, 32, 115, 117, 99, 104, 32, 118, 101, 114, 100, 105, 99, 116], [110, 111, 32, 108, 97, 110, 116, 101, 114, 110, 115], [110, 111, 32, 104, 101, 97, 114, 105, 110, 103], [116, 104, 101, 32, 105, 110, 112, 117, 116, 32, 98, 117, 102, 102, 101, 114, 32, 104, 111, 108, 100, 115, 32, 54, 48, 32, 99, 104, 97, 114, 97, 99, 116, 101, 114, 115], [109, 97, 108, 102, 111, 114, 109, 101, 100, 32, 116, 101, 120, 116], [97, 32, 99, 111, 109, 109, 97, 110, 100, 32, 102, 97, 105, 108, 101, 100], [110, 111, 32, 116, 101, 120, 116, 32, 119, 97, 115, 32, 109, 97, 108, 102, 111, 114, 109, 101, 100], [110, 111, 32, 99, 111, 109, 109, 97, 110, 100, 32, 102, 97, 105, 108, 101, 100], [110, 111, 32, 115, 117, 99, 104, 32, 99, 104, 97, 114, 97, 99, 116, 101, 114], [110, 111, 32, 99, 97, 108, 108, 32, 99, 97, 110, 32, 98, 101, 32, 117, 110, 100, 111, 110, 101], [110, 111, 32, 115, 116, 97, 116, 101, 32, 119, 97, 115, 32, 115, 97, 118, 101, 100], [103, 105, 117, 109], [97, 110, 116, 101, 114, 110], [97, 110, 99, 101, 108], [97, 121], [114, 111, 112], [100, 109, 105, 116], [97, 105, 116], [101, 101], [105, 108, 101], [108, 97, 110, 116, 101, 114, 110], [], [102, 105, 108, 101], [32, 49, 32, 50, 32, 50, 32, 49], [99, 97, 110, 99, 101, 108], [32, 51], [115, 97, 121], [32, 49, 49, 43], [100, 114, 111, 112], [32, 50], [97, 100, 109, 105, 116], [32, 49, 32, 103], [102, 114, 101, 101], [32, 49], [119, 97, 105, 116], [63, 32, 49]]
def kq (i : Nat) : String × Nat × String := kS.getD i ("", 0, "")
/-- a String constant's length and its characters, by its place -/
def sL (i : Nat) : Nat := (kB.getD i []).length
def sB (i j : Nat) : Int32 := (kB.getD i []).getD j 0
/-- the keyword and the form of a kind of command; the place of a kind in the table of the switch -/
def kwS (k : Nat) : Nat := 38 + 2 * (k % 8)
def fmS (k : Nat) : Nat := 39 + 2 * (k % 8)
def smS (k : Nat) : Int32 := ([1, 2, 3, 4, 5, 6, 7, 0] : List Int32).getD k 0
def oddW : Cond → Bool
  | .castable .. => true
  | .declares .. => true
  | .fieldLinkNest .. => true
  | .methodLinkNest .. => true
  | _ => false
/-- words of the tables that a call does not hand on by itself -/
def wOdd : List Cond := lw_tbl.filter oddW
def ncP : List (String × String) := [("java/lang/ArrayIndexOutOfBoundsException", "java/lang/IllegalStateException"), ("java/lang/IndexOutOfBoundsException", "java/lang/IllegalStateException"), ("java/lang/IllegalArgumentException", "java/lang/IllegalStateException"), ("java/util/NoSuchElementException", "java/lang/IllegalStateException"), ("java/lang/ArithmeticException", "java/lang/IllegalStateException"), ("java/lang/UnsupportedOperationException", "java/lang/IllegalStateException"), ("java/lang/IllegalStateException", "java/lang/IndexOutOfBoundsException"), ("java/lang/IllegalArgumentException", "java/lang/IndexOutOfBoundsException"), ("java/util/NoSuchElementException", "java/lang/IndexOutOfBoundsException"), ("java/lang/ArithmeticException", "java/lang/IndexOutOfBoundsException"), ("java/lang/UnsupportedOperationException", "java/lang/IndexOutOfBoundsException"), ("java/lang/IllegalStateException", "java/lang/IllegalArgumentException"), ("java/lang/ArrayIndexOutOfBoundsException", "java/lang/IllegalArgumentException"), ("java/lang/IndexOutOfBoundsException", "java/lang/IllegalArgumentException"), ("java/util/NoSuchElementException", "java/lang/IllegalArgumentException"), ("java/lang/ArithmeticException", "java/lang/IllegalArgumentException"), ("java/lang/UnsupportedOperationException", "java/lang/IllegalArgumentException"), ("java/lang/IllegalStateException", "java/util/NoSuchElementException"), ("java/lang/ArrayIndexOutOfBoundsException", "java/util/NoSuchElementException"), ("java/lang/IndexOutOfBoundsException", "java/util/NoSuchElementException"), ("java/lang/IllegalArgumentException", "java/util/NoSuchElementException"), ("java/lang/ArithmeticException", "java/util/NoSuchElementException"), ("java/lang/UnsupportedOperationException", "java/util/NoSuchElementException"), ("java/lang/IllegalStateException", "java/lang/ArithmeticException"), ("java/lang/ArrayIndexOutOfBoundsException", "java/lang/ArithmeticException"), ("java/lang/IndexOutOfBoundsException", "java/lang/ArithmeticException"), ("java/lang/IllegalArgumentException", "java/lang/ArithmeticException"), ("java/util/NoSuchElementException", "java/lang/ArithmeticException"), ("java/lang/UnsupportedOperationException", "java/lang/ArithmeticException"), ("java/lang/IllegalStateException", "java/lang/UnsupportedOperationException"), ("java/lang/ArrayIndexOutOfBoundsException", "java/lang/UnsupportedOperationException"), ("java/lang/IndexOutOfBoundsException", "java/lang/UnsupportedOperationException"), ("java/lang/IllegalArgumentException", "java/lang/UnsupportedOperationException"), ("java/util/NoSuchElementException", "java/lang/UnsupportedOperationException"), ("java/lang/ArithmeticException", "java/lang/UnsupportedOperationException")]
theorem odd_warm {x : Cond} {s U : State} (h : oddW x = true) (hW : s.WarmedH U.vm) (hZ : va_Nw x s) : va_Nw x U := by
  cases x with
  | castable a b => exact va_Nw.warmC hW hZ
  | declares a => exact va_Nw.warmD hW hZ
  | fieldLinkNest a b c d e f => exact va_Nw.warmF hW hZ
  | methodLinkNest a b c d => exact va_Nw.warmM hW hZ
  | _ => cases h
/-- the constants of the launch that the class reads: Strings at the places 0 to 53 (their rows at 100 and on), the kinds of commands at 200 and on, the table of the kinds at 300, that of the switch at 301 -/
def kW (w : wT) (U : State) (H : Heap) : Prop :=
  (∀ i, i < 54 → vk_R (kq i).1 (kq i).2.1 (kq i).2.2 (w_k w i) U ∧ va_O "java/lang/String" (w_k w i) (A_W w) U H ∧ va_OF "java/lang/String" "coder" "B" (.int 0) (w_k w i) (A_W w) U H ∧ va_OF "java/lang/String" "value" "[B" (.ref (w_k w (100 + i))) (w_k w i) (A_W w) U H ∧ va_T .byte (w_k w (100 + i)) (sL i) (fun j => .int (sB i j)) (A_W w) U H) ∧
  (∀ k, k < 8 → va_O "LanternCourt$Kind" (w_k w (200 + k)) (A_W w) U H ∧ va_OF "java/lang/Enum" "ordinal" "I" (.int (Int32.ofNat k)) (w_k w (200 + k)) (A_W w) U H ∧ va_OF "LanternCourt$Kind" "keyword" "Ljava/lang/String;" (.ref (w_k w (kwS k))) (w_k w (200 + k)) (A_W w) U H ∧ va_OF "LanternCourt$Kind" "form" "Ljava/lang/String;" (.ref (w_k w (fmS k))) (w_k w (200 + k)) (A_W w) U H) ∧
  (va_Z "LanternCourt" "KINDS" "[LLanternCourt$Kind;" (.ref (w_k w 300)) (A_W w) U H ∧ va_T (.object "LanternCourt$Kind") (w_k w 300) 8 (fun j => .ref (w_k w (200 + j))) (A_W w) U H) ∧
  (va_Z "LanternCourt$1" "$SwitchMap$LanternCourt$Kind" "[I" (.ref (w_k w 301)) (A_W w) U H ∧ va_T .int (w_k w 301) 8 (fun j => .int (smS j)) (A_W w) U H) ∧
  va_Z "LanternCourt$Kind" "LANTERN" "LLanternCourt$Kind;" (.ref (w_k w 200)) (A_W w) U H ∧
  va_Z "java/lang/String" "COMPACT_STRINGS" "Z" (.int 1) (A_W w) U H ∧
  vx_Zq Bundle.tN "UNASSIGNED_STACK" Bundle.steD (A_W w) U H ∧ vx_Zq Bundle.tN "SUPPRESSED_SENTINEL" Bundle.listD (A_W w) U H ∧
  va_Zq "jdk/internal/util/Preconditions" "SIOOBE_FORMATTER" "Ljava/util/function/BiFunction;" (A_W w) U H ∧ (∀ x ∈ wOdd, va_Nw x U) ∧ ∀ q ∈ ncP, va_Nc q.1 q.2 U
theorem kW_go {w : wT} {u U : State} {H0 H : Heap} (hW : u.WarmedH U.vm) (hq : ∀ q : Nat, q < H0.size → ¬ A_W w q → H[q]? = H0[q]?) (h : kW w u H0) : kW w U H := by
  obtain ⟨h1, h2, h3, h4, h5, h6, h7, h8, h9, h10, h11⟩ := h
  have a := hW.alike
  refine ⟨fun i hi => ?_, fun k hk => ?_, ⟨(va_Z.moved a h3.1).kept hq, (va_T.moved a h3.2).kept hq⟩, ⟨(va_Z.moved a h4.1).kept hq, (va_T.moved a h4.2).kept hq⟩, (va_Z.moved a h5).kept hq, (va_Z.moved a h6).kept hq, (vx_Zq.moved a h7).kept hq, (vx_Zq.moved a h8).kept hq, (va_Zq.moved a h9).kept hq, fun x hx => odd_warm (List.mem_filter.mp hx).2 hW (h10 x hx), fun q hq => va_Nc.moved a (h11 q hq)⟩
  · obtain ⟨g1, g2, g3, g4, g5⟩ := h1 i hi
    exact ⟨vk_R.warm hW g1, (va_O.moved a g2).kept hq, (va_OF.moved a g3).kept hq, (va_OF.moved a g4).kept hq, (va_T.moved a g5).kept hq⟩
  · obtain ⟨g1, g2, g3, g4⟩ := h2 k hk
    exact ⟨(va_O.moved a g1).kept hq, (va_OF.moved a g2).kept hq, (va_OF.moved a g3).kept hq, (va_OF.moved a g4).kept hq⟩
def gC (w : wT) (p : Program) (s : State) (m : MethodId) (args : Array Value) (c : Code) (cc : ByteArray) (nL : Nat) (own : String) : Prop :=
  p.tables.exec = Jvm.exec ∧ c.code = cc ∧ c.maxLocals = nL ∧ s.vm.findClass own = some m.cls ∧ (∀ x ∈ wAll, x.before args s = true) ∧ va_K (w_G w) vwQ (tyW w) s ∧ okW w ∧ w_B w ≤ s.heap.size ∧ kW w s s.heap
/-- from this point of the method on, with these locals and this stack, the data heap being d, the machine comes to Q -/
def gG (w : wT) (p : Program) (l : Launch) (e : Env) (R : Room) (s : State) (m : MethodId) (args : Array Value) (below : List Frame) (meth : Method) (c : Code) (nL k n : Nat) (Q : State → Prop) (d : Dt) (lv : List (Nat × Value)) (pc : Nat) (st : List Value) : Prop :=
  ∀ (H : Heap) (locs : List Loc) (ls : Array Slot), lv_has ls nL lv → va_P (w_G w) vwQ (wsW w d) H → va_S (A_W w) s.heap H locs → W p l e R s m args below meth c H locs k n Q (F0 m pc ls st)
def gRmX (n mc ms : Nat) : Room := { frames := n, cells := mc, slots := ms, locals := 40 * n }
def gRm (n : Nat) : Room := { frames := n, cells := 0, slots := 0, locals := 40 * n }
def wI (w : wT) (d : Dt) (U : State) : Prop := va_P (w_G w) vwQ (wsW w d) U.heap ∧ va_K (w_G w) vwQ (tyW w) U ∧ w_B w ≤ U.heap.size ∧ kW w U U.heap
def gQ (w : wT) (d' : Dt) (ov : Option Value) : Array Value → State → Outcome → State → Prop := fun _ st o t => o = .returned ov ∧ va_P (w_G w) vwQ (wsW w d') t.heap ∧ va_F (A_W w) st t
/-- a method's contract: called with these values over the data heap d it returns ov, the data heap being d' -/
def gM (w : wT) (l : Launch) (y : MethodName) (cc : ByteArray) (maxL : Nat) (ret : Option FieldType) (n : Nat) (av : List Value) (d d' : Dt) (ov : Option Value) : Prop :=
  Met l y (Cond.code y cc maxL ret :: wAll) (gRm n) (va_Pc av (wI w d)) (gQ w d' ov) 0 0 (A_W w)
/-- what the tables say of a class of ours -/
def cOK (ci : Nat) (Cn : String) (T : u_T) (ty : Nat → FieldType) (N : Nat) : Prop :=
  Nat.ble 20 ci = false ∧ vwQ[ci]? = some (Cn, T, N) ∧ (∀ x ∈ u_ws Cn T N, x ∈ lw_tbl) ∧ (∀ x ∈ u_ws Cn T N, x ∈ wAll) ∧ (∀ k, k < N → parseFieldDescriptor (T k).2.2.1 = some (ty k)) ∧ (∀ a, a < N → ∀ b, b < N → a ≠ b → (T a).2.1 ≠ (T b).2.1)
/-- .. and of a method of ours -/
def yOK (y : MethodName) (cc : ByteArray) (maxL : Nat) (ret : Option FieldType) (nA : Nat) : Prop :=
  Cond.code y cc maxL ret ∈ wAll ∧ Cond.initialized y.cls ∈ wAll ∧ (y.cls ≠ "java/lang/invoke/MethodHandle" ∧ y.cls ≠ "java/lang/invoke/VarHandle" ∧ (parseMethodDescriptor y.desc).map (fun d => d.parameters.length) = some nA)
theorem good_call {y : MethodName} {cc : ByteArray} {maxL nA : Nat} {ret : Option FieldType} (h : yOK y cc maxL ret nA) : GoodIn wAll (Cond.code y cc maxL ret :: wAll) := by
  intro x hx
  rcases List.mem_cons.mp hx with rfl | hx
  · exact ⟨h.1, good_of_word (wAll_good h.1)⟩
  · exact ⟨hx, good_of_word (wAll_good hx)⟩
section GR
variable {w : wT} {p : Program} {l : Launch} {e : Env} {R : Room} {s : State} {m : MethodId} {args : Array Value} {below : List Frame} {meth : Method} {c : Code} {cc : ByteArray} {nL k0 n0 : Nat} {own : String} {Q : State → Prop} {d : Dt} {lv : List (Nat × Value)} {pc : Nat} {st : List Value}
theorem g_sub {lv' : List (Nat × Value)} (ks : List Nat) (hp : lv_pick lv ks = lv') (h : gG w p l e R s m args below meth c nL k0 n0 Q d lv' pc st) : gG w p l e R s m args below meth c nL k0 n0 Q d lv pc st :=
  fun H locs ls hl hP hS => h H locs ls (lv_sub hl ks hp) hP hS
theorem g_iconst (C : gC w p s m args c cc nL own) {n : Int} {v : Int32} (hd : decode cc pc = .ok (.iconst n, 1)) (hv : Int32.ofInt n = v) (k : gG w p l e R s m args below meth c nL k0 n0 Q d lv (pc + 1) (.int v :: st)) : gG w p l e R s m args below meth c nL k0 n0 Q d lv pc st :=
  fun H locs ls hl hP hS => lv_iconst C.1 C.2.1 hd hv (k H locs ls hl hP hS)
theorem g_bipush (C : gC w p s m args c cc nL own) {n : Int} {v : Int32} (hd : decode cc pc = .ok (.bipush n, 2)) (hv : (Int8.ofInt n).toInt32 = v) (k : gG w p l e R s m args below meth c nL k0 n0 Q d lv (pc + 2) (.int v :: st)) : gG w p l e R s m args below meth c nL k0 n0 Q d lv pc st :=
  fun H locs ls hl hP hS => lv_bipush C.1 C.2.1 hd hv (k H locs ls hl hP hS)
theorem g_sipush (C : gC w p s m args c cc nL own) {n : Int} {v : Int32} (hd : decode cc pc = .ok (.sipush n, 3)) (hv : (Int16.ofInt n).toInt32 = v) (k : gG w p l e R s m args below meth c nL k0 n0 Q d lv (pc + 3) (.int v :: st)) : gG w p l e R s m args below meth c nL k0 n0 Q d lv pc st :=
  fun H locs ls hl hP hS => lv_sipush C.1 C.2.1 hd hv (k H locs ls hl hP hS)
theorem g_iload_n (C : gC w p s m args c cc nL own) {i : Fin 4} {x : Int32} (hd : decode cc pc = .ok (.iload_n i, 1)) (j : Nat) (hj : lv[j]? = some ((i : Nat), .int x)) (k : gG w p l e R s m args below meth c nL k0 n0 Q d lv (pc + 1) (.int x :: st)) : gG w p l e R s m args below meth c nL k0 n0 Q d lv pc st :=
  fun H locs ls hl hP hS => lv_iload_n C.1 C.2.1 hd rfl (lv_at hl j hj) (k H locs ls hl hP hS)
theorem g_iload (C : gC w p s m args c cc nL own) {i : Nat} {x : Int32} (hd : decode cc pc = .ok (.iload i, 2)) (j : Nat) (hj : lv[j]? = some (i, .int x)) (k : gG w p l e R s m args below meth c nL k0 n0 Q d lv (pc + 2) (.int x :: st)) : gG w p l e R s m args below meth c nL k0 n0 Q d lv pc st :=
  fun H locs ls hl hP hS => lv_iload C.1 C.2.1 hd (lv_at hl j hj) (k H locs ls hl hP hS)
theorem g_aload_n (C : gC w p s m args c cc nL own) {i : Fin 4} {x : Nat} (hd : decode cc pc = .ok (.aload_n i, 1)) (j : Nat) (hj : lv[j]? = some ((i : Nat), .ref x)) (k : gG w p l e R s m args below meth c nL k0 n0 Q d lv (pc + 1) (.ref x :: st)) : gG w p l e R s m args below meth c nL k0 n0 Q d lv pc st :=
  fun H locs ls hl hP hS => lv_aload_n C.1 C.2.1 hd rfl (lv_at hl j hj) (k H locs ls hl hP hS)
theorem g_aload (C : gC w p s m args c cc nL own) {i : Nat} {x : Nat} (hd : decode cc pc = .ok (.aload i, 2)) (j : Nat) (hj : lv[j]? = some (i, .ref x)) (k : gG w p l e R s m args below meth c nL k0 n0 Q d lv (pc + 2) (.ref x :: st)) : gG w p l e R s m args below meth c nL k0 n0 Q d lv pc st :=
  fun H locs ls hl hP hS => lv_aload C.1 C.2.1 hd (lv_at hl j hj) (k H locs ls hl hP hS)
theorem g_istore_n (C : gC w p s m args c cc nL own) {i : Fin 4} {x : Int32} (lv' : List (Nat × Value)) (hd : decode cc pc = .ok (.istore_n i, 1)) (hn : (i : Nat) < nL) (hl' : ((i : Nat), Value.int x) :: lv.filter (fun q => !(q.1 == (i : Nat)) && !(q.1 + 1 == (i : Nat) && q.2.category == 2)) = lv') (k : gG w p l e R s m args below meth c nL k0 n0 Q d lv' (pc + 1) st) : gG w p l e R s m args below meth c nL k0 n0 Q d lv pc (.int x :: st) :=
  fun H locs ls hl hP hS => lv_istore_n C.1 C.2.1 hd rfl hl hn hl' (fun ls' hl2 => k H locs ls' hl2 hP hS)
theorem g_istore (C : gC w p s m args c cc nL own) {i : Nat} {x : Int32} (lv' : List (Nat × Value)) (hd : decode cc pc = .ok (.istore i, 2)) (hn : i < nL) (hl' : (i, Value.int x) :: lv.filter (fun q => !(q.1 == i) && !(q.1 + 1 == i && q.2.category == 2)) = lv') (k : gG w p l e R s m args below meth c nL k0 n0 Q d lv' (pc + 2) st) : gG w p l e R s m args below meth c nL k0 n0 Q d lv pc (.int x :: st) :=
  fun H locs ls hl hP hS => lv_istore C.1 C.2.1 hd hl hn hl' (fun ls' hl2 => k H locs ls' hl2 hP hS)
theorem g_astore_n (C : gC w p s m args c cc nL own) {i : Fin 4} {x : Nat} (lv' : List (Nat × Value)) (hd : decode cc pc = .ok (.astore_n i, 1)) (hn : (i : Nat) < nL) (hl' : ((i : Nat), Value.ref x) :: lv.filter (fun q => !(q.1 == (i : Nat)) && !(q.1 + 1 == (i : Nat) && q.2.category == 2)) = lv') (k : gG w p l e R s m args below meth c nL k0 n0 Q d lv' (pc + 1) st) : gG w p l e R s m args below meth c nL k0 n0 Q d lv pc (.ref x :: st) :=
  fun H locs ls hl hP hS => lv_astore_n C.1 C.2.1 hd rfl hl hn hl' (fun ls' hl2 => k H locs ls' hl2 hP hS)
theorem g_astore (C : gC w p s m args c cc nL own) {i : Nat} {x : Nat} (lv' : List (Nat × Value)) (hd : decode cc pc = .ok (.astore i, 2)) (hn : i < nL) (hl' : (i, Value.ref x) :: lv.filter (fun q => !(q.1 == i) && !(q.1 + 1 == i && q.2.category == 2)) = lv') (k : gG w p l e R s m args below meth c nL k0 n0 Q d lv' (pc + 2) st) : gG w p l e R s m args below meth c nL k0 n0 Q d lv pc (.ref x :: st) :=
  fun H locs ls hl hP hS => lv_astore C.1 C.2.1 hd hl hn hl' (fun ls' hl2 => k H locs ls' hl2 hP hS)
theorem g_iinc (C : gC w p s m args c cc nL own) {i : Nat} {n : Int} {x v : Int32} (lv' : List (Nat × Value)) (hd : decode cc pc = .ok (.iinc i n, 3)) (j : Nat) (hj : lv[j]? = some (i, .int x)) (hv : x + Int32.ofInt n = v) (hn : i < nL) (hl' : (i, Value.int v) :: lv.filter (fun q => !(q.1 == i) && !(q.1 + 1 == i && q.2.category == 2)) = lv') (k : gG w p l e R s m args below meth c nL k0 n0 Q d lv' (pc + 3) st) : gG w p l e R s m args below meth c nL k0 n0 Q d lv pc st :=
  fun H locs ls hl hP hS => lv_iinc C.1 C.2.1 hd hl hj hv hn hl' (fun ls' hl2 => k H locs ls' hl2 hP hS)
theorem g_iadd (C : gC w p s m args c cc nL own) {x y : Int32} (hd : decode cc pc = .ok (.iadd, 1)) (k : gG w p l e R s m args below meth c nL k0 n0 Q d lv (pc + 1) (.int (x + y) :: st)) : gG w p l e R s m args below meth c nL k0 n0 Q d lv pc (.int y :: .int x :: st) :=
  fun H locs ls hl hP hS => lv_iadd C.1 C.2.1 hd (k H locs ls hl hP hS)
theorem g_isub (C : gC w p s m args c cc nL own) {x y : Int32} (hd : decode cc pc = .ok (.isub, 1)) (k : gG w p l e R s m args below meth c nL k0 n0 Q d lv (pc + 1) (.int (x - y) :: st)) : gG w p l e R s m args below meth c nL k0 n0 Q d lv pc (.int y :: .int x :: st) :=
  fun H locs ls hl hP hS => lv_isub C.1 C.2.1 hd (k H locs ls hl hP hS)
theorem g_imul (C : gC w p s m args c cc nL own) {x y : Int32} (hd : decode cc pc = .ok (.imul, 1)) (k : gG w p l e R s m args below meth c nL k0 n0 Q d lv (pc + 1) (.int (x * y) :: st)) : gG w p l e R s m args below meth c nL k0 n0 Q d lv pc (.int y :: .int x :: st) :=
  fun H locs ls hl hP hS => lv_imul C.1 C.2.1 hd (k H locs ls hl hP hS)
theorem g_iand (C : gC w p s m args c cc nL own) {x y : Int32} (hd : decode cc pc = .ok (.iand, 1)) (k : gG w p l e R s m args below meth c nL k0 n0 Q d lv (pc + 1) (.int (x &&& y) :: st)) : gG w p l e R s m args below meth c nL k0 n0 Q d lv pc (.int y :: .int x :: st) :=
  fun H locs ls hl hP hS => lv_iand C.1 C.2.1 hd (k H locs ls hl hP hS)
theorem g_ior (C : gC w p s m args c cc nL own) {x y : Int32} (hd : decode cc pc = .ok (.ior, 1)) (k : gG w p l e R s m args below meth c nL k0 n0 Q d lv (pc + 1) (.int (x ||| y) :: st)) : gG w p l e R s m args below meth c nL k0 n0 Q d lv pc (.int y :: .int x :: st) :=
  fun H locs ls hl hP hS => lv_ior C.1 C.2.1 hd (k H locs ls hl hP hS)
theorem g_ixor (C : gC w p s m args c cc nL own) {x y : Int32} (hd : decode cc pc = .ok (.ixor, 1)) (k : gG w p l e R s m args below meth c nL k0 n0 Q d lv (pc + 1) (.int (x ^^^ y) :: st)) : gG w p l e R s m args below meth c nL k0 n0 Q d lv pc (.int y :: .int x :: st) :=
  fun H locs ls hl hP hS => lv_ixor C.1 C.2.1 hd (k H locs ls hl hP hS)
theorem g_idiv (C : gC w p s m args c cc nL own) {x y : Int32} (hd : decode cc pc = .ok (.idiv, 1)) (hne : ¬ y = 0) (k : gG w p l e R s m args below meth c nL k0 n0 Q d lv (pc + 1) (.int (x / y) :: st)) : gG w p l e R s m args below meth c nL k0 n0 Q d lv pc (.int y :: .int x :: st) :=
  fun H locs ls hl hP hS => lv_idiv C.1 C.2.1 hd hne (k H locs ls hl hP hS)
theorem g_irem (C : gC w p s m args c cc nL own) {x y : Int32} (hd : decode cc pc = .ok (.irem, 1)) (hne : ¬ y = 0) (k : gG w p l e R s m args below meth c nL k0 n0 Q d lv (pc + 1) (.int (x - x / y * y) :: st)) : gG w p l e R s m args below meth c nL k0 n0 Q d lv pc (.int y :: .int x :: st) :=
  fun H locs ls hl hP hS => lv_irem C.1 C.2.1 hd hne (k H locs ls hl hP hS)
theorem g_ishl (C : gC w p s m args c cc nL own) {x y : Int32} (hd : decode cc pc = .ok (.ishl, 1)) (k : gG w p l e R s m args below meth c nL k0 n0 Q d lv (pc + 1) (.int (x <<< (y &&& 31)) :: st)) : gG w p l e R s m args below meth c nL k0 n0 Q d lv pc (.int y :: .int x :: st) :=
  fun H locs ls hl hP hS => lv_ishl C.1 C.2.1 hd (k H locs ls hl hP hS)
theorem g_ishr (C : gC w p s m args c cc nL own) {x y : Int32} (hd : decode cc pc = .ok (.ishr, 1)) (k : gG w p l e R s m args below meth c nL k0 n0 Q d lv (pc + 1) (.int (x >>> (y &&& 31)) :: st)) : gG w p l e R s m args below meth c nL k0 n0 Q d lv pc (.int y :: .int x :: st) :=
  fun H locs ls hl hP hS => lv_ishr C.1 C.2.1 hd (k H locs ls hl hP hS)
theorem g_iushr (C : gC w p s m args c cc nL own) {x y : Int32} (hd : decode cc pc = .ok (.iushr, 1)) (k : gG w p l e R s m args below meth c nL k0 n0 Q d lv (pc + 1) (.int ((x.toUInt32 >>> (y.toUInt32 &&& Int32.toUInt32 31)).toInt32) :: st)) : gG w p l e R s m args below meth c nL k0 n0 Q d lv pc (.int y :: .int x :: st) :=
  fun H locs ls hl hP hS => lv_iushr C.1 C.2.1 hd rfl (k H locs ls hl hP hS)
theorem g_i2c (C : gC w p s m args c cc nL own) {x : Int32} (hd : decode cc pc = .ok (.i2c, 1)) (k : gG w p l e R s m args below meth c nL k0 n0 Q d lv (pc + 1) (.int ((x.toUInt32 % 65536).toInt32) :: st)) : gG w p l e R s m args below meth c nL k0 n0 Q d lv pc (.int x :: st) :=
  fun H locs ls hl hP hS => lv_i2c C.1 C.2.1 hd rfl (k H locs ls hl hP hS)
theorem g_dup (C : gC w p s m args c cc nL own) {va : Value} (hd : decode cc pc = .ok (.dup, 1)) (hva : va.category = 1) (k : gG w p l e R s m args below meth c nL k0 n0 Q d lv (pc + 1) (va :: va :: st)) : gG w p l e R s m args below meth c nL k0 n0 Q d lv pc (va :: st) :=
  fun H locs ls hl hP hS => lv_dup C.1 C.2.1 hd hva (k H locs ls hl hP hS)
theorem g_dup2 (C : gC w p s m args c cc nL own) {va vb : Value} (hd : decode cc pc = .ok (.dup2, 1)) (hva : va.category = 1) (hvb : vb.category = 1) (k : gG w p l e R s m args below meth c nL k0 n0 Q d lv (pc + 1) (va :: vb :: va :: vb :: st)) : gG w p l e R s m args below meth c nL k0 n0 Q d lv pc (va :: vb :: st) :=
  fun H locs ls hl hP hS => lv_dup2_11 C.1 C.2.1 hd hva hvb (k H locs ls hl hP hS)
theorem g_pop (C : gC w p s m args c cc nL own) {va : Value} (hd : decode cc pc = .ok (.pop, 1)) (hva : va.category = 1) (k : gG w p l e R s m args below meth c nL k0 n0 Q d lv (pc + 1) st) : gG w p l e R s m args below meth c nL k0 n0 Q d lv pc (va :: st) :=
  fun H locs ls hl hP hS => lv_pop C.1 C.2.1 hd hva (k H locs ls hl hP hS)
theorem g_goto (C : gC w p s m args c cc nL own) {off : Int} {tgt : Nat} (hd : decode cc pc = .ok (.goto off, 3)) (ht : (pc : Int) + off = (tgt : Int)) (k : gG w p l e R s m args below meth c nL k0 n0 Q d lv tgt st) : gG w p l e R s m args below meth c nL k0 n0 Q d lv pc st :=
  fun H locs ls hl hP hS => lv_goto C.1 C.2.1 hd ht (k H locs ls hl hP hS)
theorem g_if_eq (C : gC w p s m args c cc nL own) {x : Int32} {off : Int} {tgt : Nat} (hd : decode cc pc = .ok (.ifCond .eq off, 3)) (ht : (pc : Int) + off = (tgt : Int)) (kt : x = 0 → gG w p l e R s m args below meth c nL k0 n0 Q d lv tgt st) (kf : ¬ x = 0 → gG w p l e R s m args below meth c nL k0 n0 Q d lv (pc + 3) st) : gG w p l e R s m args below meth c nL k0 n0 Q d lv pc (.int x :: st) :=
  fun H locs ls hl hP hS => lv_if_eq C.1 C.2.1 hd ht (fun q => kt q H locs ls hl hP hS) (fun q => kf q H locs ls hl hP hS)
theorem g_icmp_eq (C : gC w p s m args c cc nL own) {x y : Int32} {off : Int} {tgt : Nat} (hd : decode cc pc = .ok (.if_icmp .eq off, 3)) (ht : (pc : Int) + off = (tgt : Int)) (kt : x = y → gG w p l e R s m args below meth c nL k0 n0 Q d lv tgt st) (kf : ¬ x = y → gG w p l e R s m args below meth c nL k0 n0 Q d lv (pc + 3) st) : gG w p l e R s m args below meth c nL k0 n0 Q d lv pc (.int y :: .int x :: st) :=
  fun H locs ls hl hP hS => lv_icmp_eq C.1 C.2.1 hd ht (fun q => kt q H locs ls hl hP hS) (fun q => kf q H locs ls hl hP hS)
theorem g_if_ne (C : gC w p s m args c cc nL own) {x : Int32} {off : Int} {tgt : Nat} (hd : decode cc pc = .ok (.ifCond .ne off, 3)) (ht : (pc : Int) + off = (tgt : Int)) (kt : ¬ x = 0 → gG w p l e R s m args below meth c nL k0 n0 Q d lv tgt st) (kf : x = 0 → gG w p l e R s m args below meth c nL k0 n0 Q d lv (pc + 3) st) : gG w p l e R s m args below meth c nL k0 n0 Q d lv pc (.int x :: st) :=
  fun H locs ls hl hP hS => lv_if_ne C.1 C.2.1 hd ht (fun q => kt q H locs ls hl hP hS) (fun q => kf q H locs ls hl hP hS)
theorem g_icmp_ne (C : gC w p s m args c cc nL own) {x y : Int32} {off : Int} {tgt : Nat} (hd : decode cc pc = .ok (.if_icmp .ne off, 3)) (ht : (pc : Int) + off = (tgt : Int)) (kt : ¬ x = y → gG w p l e R s m args below meth c nL k0 n0 Q d lv tgt st) (kf : x = y → gG w p l e R s m args below meth c nL k0 n0 Q d lv (pc + 3) st) : gG w p l e R s m args below meth c nL k0 n0 Q d lv pc (.int y :: .int x :: st) :=
  fun H locs ls hl hP hS => lv_icmp_ne C.1 C.2.1 hd ht (fun q => kt q H locs ls hl hP hS) (fun q => kf q H locs ls hl hP hS)
theorem g_if_lt (C : gC w p s m args c cc nL own) {x : Int32} {off : Int} {tgt : Nat} (hd : decode cc pc = .ok (.ifCond .lt off, 3)) (ht : (pc : Int) + off = (tgt : Int)) (kt : x < 0 → gG w p l e R s m args below meth c nL k0 n0 Q d lv tgt st) (kf : ¬ x < 0 → gG w p l e R s m args below meth c nL k0 n0 Q d lv (pc + 3) st) : gG w p l e R s m args below meth c nL k0 n0 Q d lv pc (.int x :: st) :=
  fun H locs ls hl hP hS => lv_if_lt C.1 C.2.1 hd ht (fun q => kt q H locs ls hl hP hS) (fun q => kf q H locs ls hl hP hS)
theorem g_icmp_lt (C : gC w p s m args c cc nL own) {x y : Int32} {off : Int} {tgt : Nat} (hd : decode cc pc = .ok (.if_icmp .lt off, 3)) (ht : (pc : Int) + off = (tgt : Int)) (kt : x < y → gG w p l e R s m args below meth c nL k0 n0 Q d lv tgt st) (kf : ¬ x < y → gG w p l e R s m args below meth c nL k0 n0 Q d lv (pc + 3) st) : gG w p l e R s m args below meth c nL k0 n0 Q d lv pc (.int y :: .int x :: st) :=
  fun H locs ls hl hP hS => lv_icmp_lt C.1 C.2.1 hd ht (fun q => kt q H locs ls hl hP hS) (fun q => kf q H locs ls hl hP hS)
theorem g_if_ge (C : gC w p s m args c cc nL own) {x : Int32} {off : Int} {tgt : Nat} (hd : decode cc pc = .ok (.ifCond .ge off, 3)) (ht : (pc : Int) + off = (tgt : Int)) (kt : 0 ≤ x → gG w p l e R s m args below meth c nL k0 n0 Q d lv tgt st) (kf : ¬ 0 ≤ x → gG w p l e R s m args below meth c nL k0 n0 Q d lv (pc + 3) st) : gG w p l e R s m args below meth c nL k0 n0 Q d lv pc (.int x :: st) :=
  fun H locs ls hl hP hS => lv_if_ge C.1 C.2.1 hd ht (fun q => kt q H locs ls hl hP hS) (fun q => kf q H locs ls hl hP hS)
theorem g_icmp_ge (C : gC w p s m args c cc nL own) {x y : Int32} {off : Int} {tgt : Nat} (hd : decode cc pc = .ok (.if_icmp .ge off, 3)) (ht : (pc : Int) + off = (tgt : Int)) (kt : y ≤ x → gG w p l e R s m args below meth c nL k0 n0 Q d lv tgt st) (kf : ¬ y ≤ x → gG w p l e R s m args below meth c nL k0 n0 Q d lv (pc + 3) st) : gG w p l e R s m args below meth c nL k0 n0 Q d lv pc (.int y :: .int x :: st) :=
  fun H locs ls hl hP hS => lv_icmp_ge C.1 C.2.1 hd ht (fun q => kt q H locs ls hl hP hS) (fun q => kf q H locs ls hl hP hS)
theorem g_if_gt (C : gC w p s m args c cc nL own) {x : Int32} {off : Int} {tgt : Nat} (hd : decode cc pc = .ok (.ifCond .gt off, 3)) (ht : (pc : Int) + off = (tgt : Int)) (kt : 0 < x → gG w p l e R s m args below meth c nL k0 n0 Q d lv tgt st) (kf : ¬ 0 < x → gG w p l e R s m args below meth c nL k0 n0 Q d lv (pc + 3) st) : gG w p l e R s m args below meth c nL k0 n0 Q d lv pc (.int x :: st) :=
  fun H locs ls hl hP hS => lv_if_gt C.1 C.2.1 hd ht (fun q => kt q H locs ls hl hP hS) (fun q => kf q H locs ls hl hP hS)
theorem g_icmp_gt (C : gC w p s m args c cc nL own) {x y : Int32} {off : Int} {tgt : Nat} (hd : decode cc pc = .ok (.if_icmp .gt off, 3)) (ht : (pc : Int) + off = (tgt : Int)) (kt : y < x → gG w p l e R s m args below meth c nL k0 n0 Q d lv tgt st) (kf : ¬ y < x → gG w p l e R s m args below meth c nL k0 n0 Q d lv (pc + 3) st) : gG w p l e R s m args below meth c nL k0 n0 Q d lv pc (.int y :: .int x :: st) :=
  fun H locs ls hl hP hS => lv_icmp_gt C.1 C.2.1 hd ht (fun q => kt q H locs ls hl hP hS) (fun q => kf q H locs ls hl hP hS)
theorem g_if_le (C : gC w p s m args c cc nL own) {x : Int32} {off : Int} {tgt : Nat} (hd : decode cc pc = .ok (.ifCond .le off, 3)) (ht : (pc : Int) + off = (tgt : Int)) (kt : x ≤ 0 → gG w p l e R s m args below meth c nL k0 n0 Q d lv tgt st) (kf : ¬ x ≤ 0 → gG w p l e R s m args below meth c nL k0 n0 Q d lv (pc + 3) st) : gG w p l e R s m args below meth c nL k0 n0 Q d lv pc (.int x :: st) :=
  fun H locs ls hl hP hS => lv_if_le C.1 C.2.1 hd ht (fun q => kt q H locs ls hl hP hS) (fun q => kf q H locs ls hl hP hS)
theorem g_icmp_le (C : gC w p s m args c cc nL own) {x y : Int32} {off : Int} {tgt : Nat} (hd : decode cc pc = .ok (.if_icmp .le off, 3)) (ht : (pc : Int) + off = (tgt : Int)) (kt : x ≤ y → gG w p l e R s m args below meth c nL k0 n0 Q d lv tgt st) (kf : ¬ x ≤ y → gG w p l e R s m args below meth c nL k0 n0 Q d lv (pc + 3) st) : gG w p l e R s m args below meth c nL k0 n0 Q d lv pc (.int y :: .int x :: st) :=
  fun H locs ls hl hP hS => lv_icmp_le C.1 C.2.1 hd ht (fun q => kt q H locs ls hl hP hS) (fun q => kf q H locs ls hl hP hS)

end GR
