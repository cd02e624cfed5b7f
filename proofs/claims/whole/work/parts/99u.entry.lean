/-! THE LAW: what holds at its entry (GENERATED, wip/gen/p/99u.py) -/
abbrev lFl : List Cond := flatC (Jvm.Cond.and given_1 narrow_1)
def lTm (i : Nat) : Term := Term.string (mSo.getD i ("", 0, "")).1 (mSo.getD i ("", 0, "")).2.1
theorem ls_len : ∀ i, i < 6 → mSl.getD i 0 < 2 ^ 31 := by decide +kernel
theorem ls_ex : ∀ i, i < 6 → Cond.exactly (lTm i) "java/lang/String" ∈ lFl := by decide +kernel
theorem ls_co : ∀ i, i < 6 → Cond.eq (.field (lTm i) "java/lang/String" "coder" "B") (.int 0) ∈ lFl := by decide +kernel
theorem ls_ar : ∀ i, i < 6 → Cond.arrayOf (.field (lTm i) "java/lang/String" "value" "[B") .byte ∈ lFl := by decide +kernel
theorem ls_le : ∀ i, i < 6 → Cond.eq (.length (.field (lTm i) "java/lang/String" "value" "[B")) (.int (Int32.ofNat (mSl.getD i 0))) ∈ lFl := by decide +kernel
def lEl (i j : Nat) : Cond := Cond.eq (.elem (.field (lTm i) "java/lang/String" "value" "[B") (.int (Int32.ofNat j))) (.int ((mSb.getD i []).getD j 0))
theorem ls_sub {f : Nat → Cond} {n k : Nat} {M : List Cond} (h : (List.range n).map f = (M.drop k).take n) : ∀ j, j < n → f j ∈ M := by
  intro j hj
  have h1 : f j ∈ (List.range n).map f := List.mem_map.mpr ⟨j, List.mem_range.mpr hj, rfl⟩
  rw [h] at h1
  exact List.mem_of_mem_drop (List.mem_of_mem_take h1)
theorem ls_el0 : (List.range 39).map (lEl 0) = (lFl.drop 65).take 39 := by decide +kernel
theorem ls_el1 : (List.range 34).map (lEl 1) = (lFl.drop 108).take 34 := by decide +kernel
theorem ls_el2 : (List.range 46).map (lEl 2) = (lFl.drop 147).take 46 := by decide +kernel
theorem ls_el3 : (List.range 64).map (lEl 3) = (lFl.drop 199).take 64 := by decide +kernel
theorem ls_el4 : (List.range 20).map (lEl 4) = (lFl.drop 270).take 20 := by decide +kernel
theorem ls_el5 : (List.range 203).map (lEl 5) = (lFl.drop 298).take 203 := by decide +kernel
theorem ls_el : ∀ i, i < 6 → ∀ j, j < mSl.getD i 0 → lEl i j ∈ lFl := by
  intro i hi
  match i, hi with
  | 0, _ => exact ls_sub ls_el0
  | 1, _ => exact ls_sub ls_el1
  | 2, _ => exact ls_sub ls_el2
  | 3, _ => exact ls_sub ls_el3
  | 4, _ => exact ls_sub ls_el4
  | 5, _ => exact ls_sub ls_el5
theorem ls_ne : ∀ i, i < 6 → ∀ j, j < 6 → i ≠ j → Cond.not (Cond.eq (lTm i) (lTm j)) ∈ lFl ∨ Cond.not (Cond.eq (lTm j) (lTm i)) ∈ lFl := by decide +kernel
theorem ls_st : ∀ i, i < 6 → Cond.stringRef (mSo.getD i ("", 0, "")).1 (mSo.getD i ("", 0, "")).2.1 (mSo.getD i ("", 0, "")).2.2 ∈ lw_tbl := by decide +kernel
theorem ls_nw : ∀ w ∈ mNW, w ∈ lw_tbl ∧ w.onTables = true := by decide +kernel
theorem ls_tb : ∀ w ∈ ([.laysStatic "java/lang/String" "COMPACT_STRINGS" "Z", .initialized "java/lang/String", .laysStatic "jdk/internal/util/Preconditions" "SIOOBE_FORMATTER" "Ljava/util/function/BiFunction;", .initialized "jdk/internal/util/Preconditions", .laysStatic Bundle.tN "UNASSIGNED_STACK" Bundle.steD, .laysStatic Bundle.tN "SUPPRESSED_SENTINEL" Bundle.listD, .initialized Bundle.tN, .arrayOver (.object "MeetingMachines$Link"), .arrayOver (.object "MeetingMachines$Machine"), .arrayOver (.object "MeetingMachines$World"), .arrayClass .int, .arrayClass .byte, .arrayClass .boolean, .arrayClass .long] : List Cond), w ∈ lw_tbl := by decide +kernel
theorem ls_fl : ∀ w ∈ ([.eq (.static "java/lang/String" "COMPACT_STRINGS" "Z") (.int 1), .isRef (.static "jdk/internal/util/Preconditions" "SIOOBE_FORMATTER" "Ljava/util/function/BiFunction;"), .isRef (.static Bundle.tN "UNASSIGNED_STACK" Bundle.steD), .isRef (.static Bundle.tN "SUPPRESSED_SENTINEL" Bundle.listD)] : List Cond), w ∈ lFl := by decide +kernel
