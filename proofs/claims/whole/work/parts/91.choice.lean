/-! 91: the choice of the command -/
section CHOICE
theorem Inv.mono {D D' : Nat} {d : Dt} (h : Inv D d) (hD : D ≤ D') : Inv D' d := by
  obtain ⟨g, us, sv, e, f, ln, cs, om, os, h1, h2, h3⟩ := h
  exact ⟨g, us, sv, e, f, ln, cs, om, os, h1.mono hD, h2.mono hD, h3⟩
/-- a command keeps the invariant -/
def caseK (F : Nat → (Nat → Int32) → Int32 → Dt → Option ((Int32 × Dt) ⊕ (Int32 × Dt))) : Prop := ∀ (L : Nat) (xs : Nat → Int32) (i : Nat) (d : Dt) (D : Nat), L ≤ 2560 → i + 5 ≤ L → D + 135 < 100000 → Inv D d → ok (F L xs (J i) d) (fun y => ∃ d', y = .inl (J i + 5, d') ∧ Inv (D + 135) d')
theorem case_296 : caseK f_W_law_296 := by
  intro L xs i d D hL hi hB hI
  obtain ⟨g, us, sv, e, f, ln, cs, om, os, h⟩ := hI
  refine ok_mono (law_addLantern h) (fun y hy => ?_)
  obtain ⟨d', e', hI⟩ := hy
  exact ⟨d', e', hI.mono (by omega)⟩
theorem case_340 : caseK f_W_law_340 := by
  intro L xs i d D hL hi hB hI
  obtain ⟨g, us, sv, e, f, ln, cs, om, os, h⟩ := hI
  refine ok_mono (law_file (D' := D + 135) h hi hL (by omega) hB) (fun y hy => ?_)
  obtain ⟨d', e', hI⟩ := hy
  exact ⟨d', e', hI⟩
theorem case_432 : caseK f_W_law_432 := by
  intro L xs i d D hL hi hB hI
  obtain ⟨g, us, sv, e, f, ln, cs, om, os, h⟩ := hI
  refine ok_mono (law_withdraw h hi hL (by omega)) (fun y hy => ?_)
  obtain ⟨d', e', hI⟩ := hy
  exact ⟨d', e', hI.mono (by omega)⟩
theorem case_488 : caseK f_W_law_488 := by
  intro L xs i d D hL hi hB hI
  obtain ⟨g, us, sv, e, f, ln, cs, om, os, h⟩ := hI
  refine ok_mono (law_makeStatement h hi hL) (fun y hy => ?_)
  obtain ⟨d', e', hI⟩ := hy
  exact ⟨d', e', hI.mono (by omega)⟩
theorem case_584 : caseK f_W_law_584 := by
  intro L xs i d D hL hi hB hI
  obtain ⟨g, us, sv, e, f, ln, cs, om, os, h⟩ := hI
  refine ok_mono (law_dropStatement h hi hL) (fun y hy => ?_)
  obtain ⟨d', e', hI⟩ := hy
  exact ⟨d', e', hI.mono (by omega)⟩
theorem case_640 : caseK f_W_law_640 := by
  intro L xs i d D hL hi hB hI
  obtain ⟨g, us, sv, e, f, ln, cs, om, os, h⟩ := hI
  refine ok_mono (law_admit h hi hL) (fun y hy => ?_)
  obtain ⟨d', e', hI⟩ := hy
  exact ⟨d', e', hI.mono (by omega)⟩
theorem case_731 : caseK f_W_law_731 := by
  intro L xs i d D hL hi hB hI
  obtain ⟨g, us, sv, e, f, ln, cs, om, os, h⟩ := hI
  refine ok_mono (law_retract h hi hL) (fun y hy => ?_)
  obtain ⟨d', e', hI⟩ := hy
  exact ⟨d', e', hI.mono (by omega)⟩
theorem case_794 : caseK f_W_law_794 := by
  intro L xs i d D hL hi hB hI
  obtain ⟨g, us, sv, e, f, ln, cs, om, os, h⟩ := hI
  refine ok_mono (law_passDays (D' := D + 135) h hi hL (by omega) hB) (fun y hy => ?_)
  obtain ⟨d', e', hI⟩ := hy
  exact ⟨d', e', hI⟩
theorem case_850 : caseK f_W_law_850 := by
  intro L xs i d D hL hi hB hI
  obtain ⟨g, us, sv, e, f, ln, cs, om, os, h⟩ := hI
  refine ok_mono (law_pardon h hi hL) (fun y hy => ?_)
  obtain ⟨d', e', hI⟩ := hy
  exact ⟨d', e', hI.mono (by omega)⟩
theorem case_906 : caseK f_W_law_906 := by
  intro L xs i d D hL hi hB hI
  obtain ⟨g, us, sv, e, f, ln, cs, om, os, h⟩ := hI
  refine ok_mono (law_day h) (fun y hy => ?_)
  obtain ⟨d', e', hI⟩ := hy
  exact ⟨d', e', hI.mono (by omega)⟩
theorem case_919 : caseK f_W_law_919 := by
  intro L xs i d D hL hi hB hI
  obtain ⟨g, us, sv, e, f, ln, cs, om, os, h⟩ := hI
  refine ok_mono (law_lanternCount h) (fun y hy => ?_)
  obtain ⟨d', e', hI⟩ := hy
  exact ⟨d', e', hI.mono (by omega)⟩
theorem case_932 : caseK f_W_law_932 := by
  intro L xs i d D hL hi hB hI
  obtain ⟨g, us, sv, e, f, ln, cs, om, os, h⟩ := hI
  refine ok_mono (law_brightness h hi hL) (fun y hy => ?_)
  obtain ⟨d', e', hI⟩ := hy
  exact ⟨d', e', hI.mono (by omega)⟩
theorem case_988 : caseK f_W_law_988 := by
  intro L xs i d D hL hi hB hI
  obtain ⟨g, us, sv, e, f, ln, cs, om, os, h⟩ := hI
  refine ok_mono (law_hasAdmitted h hi hL) (fun y hy => ?_)
  obtain ⟨d', e', hI⟩ := hy
  exact ⟨d', e', hI.mono (by omega)⟩
theorem case_1079 : caseK f_W_law_1079 := by
  intro L xs i d D hL hi hB hI
  obtain ⟨g, us, sv, e, f, ln, cs, om, os, h⟩ := hI
  refine ok_mono (law_sentenceCount h hi hL) (fun y hy => ?_)
  obtain ⟨d', e', hI⟩ := hy
  exact ⟨d', e', hI.mono (by omega)⟩
theorem case_1135 : caseK f_W_law_1135 := by
  intro L xs i d D hL hi hB hI
  obtain ⟨g, us, sv, e, f, ln, cs, om, os, h⟩ := hI
  refine ok_mono (law_daysLeft h hi hL) (fun y hy => ?_)
  obtain ⟨d', e', hI⟩ := hy
  exact ⟨d', e', hI.mono (by omega)⟩
theorem case_1191 : caseK f_W_law_1191 := by
  intro L xs i d D hL hi hB hI
  obtain ⟨g, us, sv, e, f, ln, cs, om, os, h⟩ := hI
  refine ok_mono (law_daysUntilFree h hi hL) (fun y hy => ?_)
  obtain ⟨d', e', hI⟩ := hy
  exact ⟨d', e', hI.mono (by omega)⟩
theorem case_1247 : caseK f_W_law_1247 := by
  intro L xs i d D hL hi hB hI
  obtain ⟨g, us, sv, e, f, ln, cs, om, os, h⟩ := hI
  refine ok_mono (law_briefCount h) (fun y hy => ?_)
  obtain ⟨d', e', hI⟩ := hy
  exact ⟨d', e', hI.mono (by omega)⟩
theorem case_1260 : caseK f_W_law_1260 := by
  intro L xs i d D hL hi hB hI
  obtain ⟨g, us, sv, e, f, ln, cs, om, os, h⟩ := hI
  refine ok_mono (law_briefAt h hi hL) (fun y hy => ?_)
  obtain ⟨d', e', hI⟩ := hy
  exact ⟨d', e', hI.mono (by omega)⟩
theorem case_1316 : caseK f_W_law_1316 := by
  intro L xs i d D hL hi hB hI
  obtain ⟨g, us, sv, e, f, ln, cs, om, os, h⟩ := hI
  refine ok_mono (law_lanternOf h hi hL (by omega)) (fun y hy => ?_)
  obtain ⟨d', e', hI⟩ := hy
  exact ⟨d', e', hI.mono (by omega)⟩
theorem case_1372 : caseK f_W_law_1372 := by
  intro L xs i d D hL hi hB hI
  obtain ⟨g, us, sv, e, f, ln, cs, om, os, h⟩ := hI
  refine ok_mono (law_lastDay h hi hL (by omega)) (fun y hy => ?_)
  obtain ⟨d', e', hI⟩ := hy
  exact ⟨d', e', hI.mono (by omega)⟩
theorem case_1428 : caseK f_W_law_1428 := by
  intro L xs i d D hL hi hB hI
  obtain ⟨g, us, sv, e, f, ln, cs, om, os, h⟩ := hI
  refine ok_mono (law_fee h hi hL (by omega)) (fun y hy => ?_)
  obtain ⟨d', e', hI⟩ := hy
  exact ⟨d', e', hI.mono (by omega)⟩
theorem case_1484 : caseK f_W_law_1484 := by
  intro L xs i d D hL hi hB hI
  obtain ⟨g, us, sv, e, f, ln, cs, om, os, h⟩ := hI
  refine ok_mono (law_severity h hi hL (by omega)) (fun y hy => ?_)
  obtain ⟨d', e', hI⟩ := hy
  exact ⟨d', e', hI.mono (by omega)⟩
theorem case_1540 : caseK f_W_law_1540 := by
  intro L xs i d D hL hi hB hI
  obtain ⟨g, us, sv, e, f, ln, cs, om, os, h⟩ := hI
  refine ok_mono (law_isInPlan h hi hL (by omega)) (fun y hy => ?_)
  obtain ⟨d', e', hI⟩ := hy
  exact ⟨d', e', hI.mono (by omega)⟩
theorem case_1603 : caseK f_W_law_1603 := by
  intro L xs i d D hL hi hB hI
  obtain ⟨g, us, sv, e, f, ln, cs, om, os, h⟩ := hI
  refine ok_mono (law_hearingDay h hi hL (by omega)) (fun y hy => ?_)
  obtain ⟨d', e', hI⟩ := hy
  exact ⟨d', e', hI.mono (by omega)⟩
theorem case_1659 : caseK f_W_law_1659 := by
  intro L xs i d D hL hi hB hI
  obtain ⟨g, us, sv, e, f, ln, cs, om, os, h⟩ := hI
  refine ok_mono (law_planFee h (by omega)) (fun y hy => ?_)
  obtain ⟨d', e', hI⟩ := hy
  exact ⟨d', e', hI.mono (by omega)⟩
theorem case_1672 : caseK f_W_law_1672 := by
  intro L xs i d D hL hi hB hI
  obtain ⟨g, us, sv, e, f, ln, cs, om, os, h⟩ := hI
  refine ok_mono (law_planFeeBySets h (by omega)) (fun y hy => ?_)
  obtain ⟨d', e', hI⟩ := hy
  exact ⟨d', e', hI.mono (by omega)⟩
theorem case_1685 : caseK f_W_law_1685 := by
  intro L xs i d D hL hi hB hI
  obtain ⟨g, us, sv, e, f, ln, cs, om, os, h⟩ := hI
  refine ok_mono (law_statementCount h) (fun y hy => ?_)
  obtain ⟨d', e', hI⟩ := hy
  exact ⟨d', e', hI.mono (by omega)⟩
theorem case_1698 : caseK f_W_law_1698 := by
  intro L xs i d D hL hi hB hI
  obtain ⟨g, us, sv, e, f, ln, cs, om, os, h⟩ := hI
  refine ok_mono (law_firstOf h hi hL) (fun y hy => ?_)
  obtain ⟨d', e', hI⟩ := hy
  exact ⟨d', e', hI.mono (by omega)⟩
theorem case_1754 : caseK f_W_law_1754 := by
  intro L xs i d D hL hi hB hI
  obtain ⟨g, us, sv, e, f, ln, cs, om, os, h⟩ := hI
  refine ok_mono (law_secondOf h hi hL) (fun y hy => ?_)
  obtain ⟨d', e', hI⟩ := hy
  exact ⟨d', e', hI.mono (by omega)⟩
theorem case_1810 : caseK f_W_law_1810 := by
  intro L xs i d D hL hi hB hI
  obtain ⟨g, us, sv, e, f, ln, cs, om, os, h⟩ := hI
  refine ok_mono (law_isTogether h hi hL) (fun y hy => ?_)
  obtain ⟨d', e', hI⟩ := hy
  exact ⟨d', e', hI.mono (by omega)⟩
theorem case_1873 : caseK f_W_law_1873 := by
  intro L xs i d D hL hi hB hI
  obtain ⟨g, us, sv, e, f, ln, cs, om, os, h⟩ := hI
  refine ok_mono (law_groupCount h) (fun y hy => ?_)
  obtain ⟨d', e', hI⟩ := hy
  exact ⟨d', e', hI.mono (by omega)⟩
theorem case_1886 : caseK f_W_law_1886 := by
  intro L xs i d D hL hi hB hI
  obtain ⟨g, us, sv, e, f, ln, cs, om, os, h⟩ := hI
  refine ok_mono (law_isContradictory h hi hL) (fun y hy => ?_)
  obtain ⟨d', e', hI⟩ := hy
  exact ⟨d', e', hI.mono (by omega)⟩
theorem case_1949 : caseK f_W_law_1949 := by
  intro L xs i d D hL hi hB hI
  obtain ⟨g, us, sv, e, f, ln, cs, om, os, h⟩ := hI
  refine ok_mono (law_relation h hi hL) (fun y hy => ?_)
  obtain ⟨d', e', hI⟩ := hy
  exact ⟨d', e', hI.mono (by omega)⟩
theorem case_2017 : caseK f_W_law_2017 := by
  intro L xs i d D hL hi hB hI
  obtain ⟨g, us, sv, e, f, ln, cs, om, os, h⟩ := hI
  refine ok_mono (law_verdict h hi hL) (fun y hy => ?_)
  obtain ⟨d', e', hI⟩ := hy
  exact ⟨d', e', hI.mono (by omega)⟩
theorem case_2073 : caseK f_W_law_2073 := by
  intro L xs i d D hL hi hB hI
  obtain ⟨g, us, sv, e, f, ln, cs, om, os, h⟩ := hI
  refine ok_mono (law_byExpl h hi hL) (fun y hy => ?_)
  obtain ⟨d', e', hI⟩ := hy
  exact ⟨d', e', hI.mono (by omega)⟩
theorem case_2129 : caseK f_W_law_2129 := by
  intro L xs i d D hL hi hB hI
  obtain ⟨g, us, sv, e, f, ln, cs, om, os, h⟩ := hI
  refine ok_mono (law_explanations h) (fun y hy => ?_)
  obtain ⟨d', e', hI⟩ := hy
  exact ⟨d', e', hI.mono (by omega)⟩
theorem case_2142 : caseK f_W_law_2142 := by
  intro L xs i d D hL hi hB hI
  obtain ⟨g, us, sv, e, f, ln, cs, om, os, h⟩ := hI
  refine ok_mono (law_byTrial h) (fun y hy => ?_)
  obtain ⟨d', e', hI⟩ := hy
  exact ⟨d', e', hI.mono (by omega)⟩
theorem case_2155 : caseK f_W_law_2155 := by
  intro L xs i d D hL hi hB hI
  obtain ⟨g, us, sv, e, f, ln, cs, om, os, h⟩ := hI
  refine ok_mono (law_leastFalse h) (fun y hy => ?_)
  obtain ⟨d', e', hI⟩ := hy
  exact ⟨d', e', hI.mono (by omega)⟩
theorem case_2168 : caseK f_W_law_2168 := by
  intro L xs i d D hL hi hB hI
  obtain ⟨g, us, sv, e, f, ln, cs, om, os, h⟩ := hI
  refine ok_mono (law_bySets h) (fun y hy => ?_)
  obtain ⟨d', e', hI⟩ := hy
  exact ⟨d', e', hI.mono (by omega)⟩
theorem case_2181 : caseK f_W_law_2181 := by
  intro L xs i d D hL hi hB hI
  obtain ⟨g, us, sv, e, f, ln, cs, om, os, h⟩ := hI
  refine ok_mono (law_rank h hi hL) (fun y hy => ?_)
  obtain ⟨d', e', hI⟩ := hy
  exact ⟨d', e', hI.mono (by omega)⟩
theorem case_2237 : caseK f_W_law_2237 := by
  intro L xs i d D hL hi hB hI
  obtain ⟨g, us, sv, e, f, ln, cs, om, os, h⟩ := hI
  refine ok_mono (law_courtCoins h) (fun y hy => ?_)
  obtain ⟨d', e', hI⟩ := hy
  exact ⟨d', e', hI.mono (by omega)⟩
theorem case_2250 : caseK f_W_law_2250 := by
  intro L xs i d D hL hi hB hI
  obtain ⟨g, us, sv, e, f, ln, cs, om, os, h⟩ := hI
  refine ok_mono (law_paidBack h) (fun y hy => ?_)
  obtain ⟨d', e', hI⟩ := hy
  exact ⟨d', e', hI.mono (by omega)⟩
theorem case_2263 : caseK f_W_law_2263 := by
  intro L xs i d D hL hi hB hI
  obtain ⟨g, us, sv, e, f, ln, cs, om, os, h⟩ := hI
  refine ok_mono (law_hearingCount h hi hL) (fun y hy => ?_)
  obtain ⟨d', e', hI⟩ := hy
  exact ⟨d', e', hI.mono (by omega)⟩
theorem case_2321 : caseK f_W_law_2321 := by
  intro L xs i d D hL hi hB hI
  obtain ⟨g, us, sv, e, f, ln, cs, om, os, h⟩ := hI
  refine ok_mono (law_lapsedCount h) (fun y hy => ?_)
  obtain ⟨d', e', hI⟩ := hy
  exact ⟨d', e', hI.mono (by omega)⟩
theorem case_2334 : caseK f_W_law_2334 := by
  intro L xs i d D hL hi hB hI
  obtain ⟨g, us, sv, e, f, ln, cs, om, os, h⟩ := hI
  refine ok_mono (law_servedDays h) (fun y hy => ?_)
  obtain ⟨d', e', hI⟩ := hy
  exact ⟨d', e', hI.mono (by omega)⟩
theorem case_2347 : caseK f_W_law_2347 := by
  intro L xs i d D hL hi hB hI
  obtain ⟨g, us, sv, e, f, ln, cs, om, os, h⟩ := hI
  refine ok_mono (law_mean h) (fun y hy => ?_)
  obtain ⟨d', e', hI⟩ := hy
  exact ⟨d', e', hI.mono (by omega)⟩
theorem case_2412 : caseK f_W_law_2412 := by
  intro L xs i d D hL hi hB hI
  obtain ⟨g, us, sv, e, f, ln, cs, om, os, h⟩ := hI
  refine ok_mono (law_share h) (fun y hy => ?_)
  obtain ⟨d', e', hI⟩ := hy
  exact ⟨d', e', hI.mono (by omega)⟩
theorem case_2478 : caseK f_W_law_2478 := by
  intro L xs i d D hL hi hB hI
  obtain ⟨g, us, sv, e, f, ln, cs, om, os, h⟩ := hI
  refine ok_mono (law_isConsistent h (by omega)) (fun y hy => ?_)
  obtain ⟨d', e', hI⟩ := hy
  exact ⟨d', e', hI.mono (by omega)⟩
theorem case_2491 : caseK f_W_law_2491 := by
  intro L xs i d D hL hi hB hI
  obtain ⟨g, us, sv, e, f, ln, cs, om, os, h⟩ := hI
  refine ok_mono (law_feed h hi hL) (fun y hy => ?_)
  obtain ⟨d', e', hI⟩ := hy
  exact ⟨d', e', hI.mono (by omega)⟩
theorem case_2549 : caseK f_W_law_2549 := by
  intro L xs i d D hL hi hB hI
  obtain ⟨g, us, sv, e, f, ln, cs, om, os, h⟩ := hI
  refine ok_mono (law_runCommands (D' := D + 135) h (by omega) hB) (fun y hy => ?_)
  obtain ⟨d', e', hI⟩ := hy
  exact ⟨d', e', hI⟩
theorem case_2593 : caseK f_W_law_2593 := by
  intro L xs i d D hL hi hB hI
  obtain ⟨g, us, sv, e, f, ln, cs, om, os, h⟩ := hI
  refine ok_mono (law_errorPosition h) (fun y hy => ?_)
  obtain ⟨d', e', hI⟩ := hy
  exact ⟨d', e', hI.mono (by omega)⟩
theorem case_2637 : caseK f_W_law_2637 := by
  intro L xs i d D hL hi hB hI
  obtain ⟨g, us, sv, e, f, ln, cs, om, os, h⟩ := hI
  refine ok_mono (law_failedCommand h) (fun y hy => ?_)
  obtain ⟨d', e', hI⟩ := hy
  exact ⟨d', e', hI.mono (by omega)⟩
theorem case_2681 : caseK f_W_law_2681 := by
  intro L xs i d D hL hi hB hI
  obtain ⟨g, us, sv, e, f, ln, cs, om, os, h⟩ := hI
  refine ok_mono (law_writeLantern h hi hL) (fun y hy => ?_)
  obtain ⟨d', e', hI⟩ := hy
  exact ⟨d', e', hI.mono (by omega)⟩
theorem case_2737 : caseK f_W_law_2737 := by
  intro L xs i d D hL hi hB hI
  obtain ⟨g, us, sv, e, f, ln, cs, om, os, h⟩ := hI
  refine ok_mono (law_writePlan h (by omega)) (fun y hy => ?_)
  obtain ⟨d', e', hI⟩ := hy
  exact ⟨d', e', hI.mono (by omega)⟩
theorem case_2750 : caseK f_W_law_2750 := by
  intro L xs i d D hL hi hB hI
  obtain ⟨g, us, sv, e, f, ln, cs, om, os, h⟩ := hI
  refine ok_mono (law_outputChar h hi hL) (fun y hy => ?_)
  obtain ⟨d', e', hI⟩ := hy
  exact ⟨d', e', hI.mono (by omega)⟩
theorem case_2806 : caseK f_W_law_2806 := by
  intro L xs i d D hL hi hB hI
  obtain ⟨g, us, sv, e, f, ln, cs, om, os, h⟩ := hI
  refine ok_mono (law_undoCount h) (fun y hy => ?_)
  obtain ⟨d', e', hI⟩ := hy
  exact ⟨d', e', hI.mono (by omega)⟩
theorem case_2819 : caseK f_W_law_2819 := by
  intro L xs i d D hL hi hB hI
  obtain ⟨g, us, sv, e, f, ln, cs, om, os, h⟩ := hI
  refine ok_mono (law_undo h) (fun y hy => ?_)
  obtain ⟨d', e', hI⟩ := hy
  exact ⟨d', e', hI.mono (by omega)⟩
theorem case_2863 : caseK f_W_law_2863 := by
  intro L xs i d D hL hi hB hI
  obtain ⟨g, us, sv, e, f, ln, cs, om, os, h⟩ := hI
  refine ok_mono (law_save h) (fun y hy => ?_)
  obtain ⟨d', e', hI⟩ := hy
  exact ⟨d', e', hI.mono (by omega)⟩
theorem case_2876 : caseK f_W_law_2876 := by
  intro L xs i d D hL hi hB hI
  obtain ⟨g, us, sv, e, f, ln, cs, om, os, h⟩ := hI
  refine ok_mono (law_restore h) (fun y hy => ?_)
  obtain ⟨d', e', hI⟩ := hy
  exact ⟨d', e', hI.mono (by omega)⟩
theorem steps_of  : steps := by
  intro L xs i d D hL hi hB hI
  have hn : ¬ Int32.ofNat L - 5 < J i := by
    show ¬ J L - J 5 < J i
    rw [J_sub (by omega), J_lt (by omega) (by omega)]
    omega
  have hg : inb (J i) L = true := by rw [J_inb (by omega)]; exact decide_eq_true (by omega)
  unfold st_W_law_28
  rw [if_n hn, gd_t1 hg]
  generalize xs (J i).toNatClampNeg &&& 63 = w
  by_cases q : w = 0
  · rw [if_p q]
    exact case_296 L xs i d D hL hi hB hI
  rw [if_n q]; clear q
  by_cases q : w = 1
  · rw [if_p q]
    exact case_340 L xs i d D hL hi hB hI
  rw [if_n q]; clear q
  by_cases q : w = 2
  · rw [if_p q]
    exact case_432 L xs i d D hL hi hB hI
  rw [if_n q]; clear q
  by_cases q : w = 3
  · rw [if_p q]
    exact case_488 L xs i d D hL hi hB hI
  rw [if_n q]; clear q
  by_cases q : w = 4
  · rw [if_p q]
    exact case_584 L xs i d D hL hi hB hI
  rw [if_n q]; clear q
  by_cases q : w = 5
  · rw [if_p q]
    exact case_640 L xs i d D hL hi hB hI
  rw [if_n q]; clear q
  by_cases q : w = 6
  · rw [if_p q]
    exact case_731 L xs i d D hL hi hB hI
  rw [if_n q]; clear q
  by_cases q : w = 7
  · rw [if_p q]
    exact case_794 L xs i d D hL hi hB hI
  rw [if_n q]; clear q
  by_cases q : w = 8
  · rw [if_p q]
    exact case_850 L xs i d D hL hi hB hI
  rw [if_n q]; clear q
  by_cases q : w = 9
  · rw [if_p q]
    exact case_906 L xs i d D hL hi hB hI
  rw [if_n q]; clear q
  by_cases q : w = 10
  · rw [if_p q]
    exact case_919 L xs i d D hL hi hB hI
  rw [if_n q]; clear q
  by_cases q : w = 11
  · rw [if_p q]
    exact case_932 L xs i d D hL hi hB hI
  rw [if_n q]; clear q
  by_cases q : w = 12
  · rw [if_p q]
    exact case_988 L xs i d D hL hi hB hI
  rw [if_n q]; clear q
  by_cases q : w = 13
  · rw [if_p q]
    exact case_1079 L xs i d D hL hi hB hI
  rw [if_n q]; clear q
  by_cases q : w = 14
  · rw [if_p q]
    exact case_1135 L xs i d D hL hi hB hI
  rw [if_n q]; clear q
  by_cases q : w = 15
  · rw [if_p q]
    exact case_1191 L xs i d D hL hi hB hI
  rw [if_n q]; clear q
  by_cases q : w = 16
  · rw [if_p q]
    exact case_1247 L xs i d D hL hi hB hI
  rw [if_n q]; clear q
  by_cases q : w = 17
  · rw [if_p q]
    exact case_1260 L xs i d D hL hi hB hI
  rw [if_n q]; clear q
  by_cases q : w = 18
  · rw [if_p q]
    exact case_1316 L xs i d D hL hi hB hI
  rw [if_n q]; clear q
  by_cases q : w = 19
  · rw [if_p q]
    exact case_1372 L xs i d D hL hi hB hI
  rw [if_n q]; clear q
  by_cases q : w = 20
  · rw [if_p q]
    exact case_1428 L xs i d D hL hi hB hI
  rw [if_n q]; clear q
  by_cases q : w = 21
  · rw [if_p q]
    exact case_1484 L xs i d D hL hi hB hI
  rw [if_n q]; clear q
  by_cases q : w = 22
  · rw [if_p q]
    exact case_1540 L xs i d D hL hi hB hI
  rw [if_n q]; clear q
  by_cases q : w = 23
  · rw [if_p q]
    exact case_1603 L xs i d D hL hi hB hI
  rw [if_n q]; clear q
  by_cases q : w = 24
  · rw [if_p q]
    exact case_1659 L xs i d D hL hi hB hI
  rw [if_n q]; clear q
  by_cases q : w = 25
  · rw [if_p q]
    exact case_1672 L xs i d D hL hi hB hI
  rw [if_n q]; clear q
  by_cases q : w = 26
  · rw [if_p q]
    exact case_1685 L xs i d D hL hi hB hI
  rw [if_n q]; clear q
  by_cases q : w = 27
  · rw [if_p q]
    exact case_1698 L xs i d D hL hi hB hI
  rw [if_n q]; clear q
  by_cases q : w = 28
  · rw [if_p q]
    exact case_1754 L xs i d D hL hi hB hI
  rw [if_n q]; clear q
  by_cases q : w = 29
  · rw [if_p q]
    exact case_1810 L xs i d D hL hi hB hI
  rw [if_n q]; clear q
  by_cases q : w = 30
  · rw [if_p q]
    exact case_1873 L xs i d D hL hi hB hI
  rw [if_n q]; clear q
  by_cases q : w = 31
  · rw [if_p q]
    exact case_1886 L xs i d D hL hi hB hI
  rw [if_n q]; clear q
  by_cases q : w = 32
  · rw [if_p q]
    exact case_1949 L xs i d D hL hi hB hI
  rw [if_n q]; clear q
  by_cases q : w = 33
  · rw [if_p q]
    exact case_2017 L xs i d D hL hi hB hI
  rw [if_n q]; clear q
  by_cases q : w = 34
  · rw [if_p q]
    exact case_2073 L xs i d D hL hi hB hI
  rw [if_n q]; clear q
  by_cases q : w = 35
  · rw [if_p q]
    exact case_2129 L xs i d D hL hi hB hI
  rw [if_n q]; clear q
  by_cases q : w = 36
  · rw [if_p q]
    exact case_2142 L xs i d D hL hi hB hI
  rw [if_n q]; clear q
  by_cases q : w = 37
  · rw [if_p q]
    exact case_2155 L xs i d D hL hi hB hI
  rw [if_n q]; clear q
  by_cases q : w = 38
  · rw [if_p q]
    exact case_2168 L xs i d D hL hi hB hI
  rw [if_n q]; clear q
  by_cases q : w = 39
  · rw [if_p q]
    exact case_2181 L xs i d D hL hi hB hI
  rw [if_n q]; clear q
  by_cases q : w = 40
  · rw [if_p q]
    exact case_2237 L xs i d D hL hi hB hI
  rw [if_n q]; clear q
  by_cases q : w = 41
  · rw [if_p q]
    exact case_2250 L xs i d D hL hi hB hI
  rw [if_n q]; clear q
  by_cases q : w = 42
  · rw [if_p q]
    exact case_2263 L xs i d D hL hi hB hI
  rw [if_n q]; clear q
  by_cases q : w = 43
  · rw [if_p q]
    exact case_2321 L xs i d D hL hi hB hI
  rw [if_n q]; clear q
  by_cases q : w = 44
  · rw [if_p q]
    exact case_2334 L xs i d D hL hi hB hI
  rw [if_n q]; clear q
  by_cases q : w = 45
  · rw [if_p q]
    exact case_2347 L xs i d D hL hi hB hI
  rw [if_n q]; clear q
  by_cases q : w = 46
  · rw [if_p q]
    exact case_2412 L xs i d D hL hi hB hI
  rw [if_n q]; clear q
  by_cases q : w = 47
  · rw [if_p q]
    exact case_2478 L xs i d D hL hi hB hI
  rw [if_n q]; clear q
  by_cases q : w = 48
  · rw [if_p q]
    exact case_2491 L xs i d D hL hi hB hI
  rw [if_n q]; clear q
  by_cases q : w = 49
  · rw [if_p q]
    exact case_2549 L xs i d D hL hi hB hI
  rw [if_n q]; clear q
  by_cases q : w = 50
  · rw [if_p q]
    exact case_2593 L xs i d D hL hi hB hI
  rw [if_n q]; clear q
  by_cases q : w = 51
  · rw [if_p q]
    exact case_2637 L xs i d D hL hi hB hI
  rw [if_n q]; clear q
  by_cases q : w = 52
  · rw [if_p q]
    exact case_2681 L xs i d D hL hi hB hI
  rw [if_n q]; clear q
  by_cases q : w = 53
  · rw [if_p q]
    exact case_2737 L xs i d D hL hi hB hI
  rw [if_n q]; clear q
  by_cases q : w = 54
  · rw [if_p q]
    exact case_2750 L xs i d D hL hi hB hI
  rw [if_n q]; clear q
  by_cases q : w = 55
  · rw [if_p q]
    exact case_2806 L xs i d D hL hi hB hI
  rw [if_n q]; clear q
  by_cases q : w = 56
  · rw [if_p q]
    exact case_2819 L xs i d D hL hi hB hI
  rw [if_n q]; clear q
  by_cases q : w = 57
  · rw [if_p q]
    exact case_2863 L xs i d D hL hi hB hI
  rw [if_n q]; clear q
  by_cases q : w = 58
  · rw [if_p q]
    exact case_2876 L xs i d D hL hi hB hI
  rw [if_n q]; clear q
  rw [ok_s]
  exact ⟨d, rfl, hI.mono (by omega)⟩
end CHOICE
