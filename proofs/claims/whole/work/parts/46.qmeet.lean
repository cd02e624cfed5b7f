/-! PURE: a meeting is told (GENERATED, wip/gen/p/46.py) -/
theorem q_meeting {dia mt n f : mF} {T : Nat} (h : RD dia mt n T) (hT : T < 2 ^ 30) {x y : Int32} : OX10_meeting x y f n ∧ FX10_meeting x y f n = (FX0_tell x y dia mt, upd f 0 0) ∧ OX0_tell x y dia mt := by
  obtain ⟨-, -, c, h3, h4, h5, h6⟩ := h
  have ml : (if 30 < dia 1 then 30 else dia 1) = nI (min c 30) := by
    rw [h4]
    rcases Nat.lt_or_ge 30 c with q | q
    · rw [if_pos (show (30 : Int32) < nI c from nI_lt (a := 30) q (by omega)), show min c 30 = 30 by omega]
      rfl
    · rw [if_neg (show ¬ (30 : Int32) < nI c from nI_nlt (a := 30) (b := c) q (by decide)), show min c 30 = c by omega]
  have mp := inPrg (x := x) (L := min c 30) (by omega)
  have n5 : FX10_isIn x 0 (n 351 - 1) = FX10_isIn x 0 (nI (min c 30) - 1) := by rw [h5]
  have z10 : ¬ (1 : Int32) = 0 := by decide
  rcases mp with ⟨p1, p2, p3, k, pk, rfl⟩ | ⟨p1, p2⟩
  · rw [p1] at n5
    have p4 : ¬ nI (min c 30) ≤ nI k := lt_no p3
    by_cases hy : ∃ j : Nat, 0 ≤ j ∧ j ≤ 5 ∧ y = nI j
    · obtain ⟨j, -, j5, rfl⟩ := hy
      have i1 : FX10_isIn (nI j) 0 5 = 1 := (isIn_1 (a := 0) (c := 5) (by decide) (by decide) (Nat.zero_le j) j5 rfl).1
      have d1 : ¬ nI j < 0 := nI_pos (by omega)
      have d2 : nI j < 6 := nI_lt (b := 6) (by omega) (by decide)
      have e1 : (352 : Int32) + 6 * nI k + nI j = nI (352 + 6 * k + j) := by
        rw [(m6 (by omega)).2, show (352 : Int32) + nI (6 * k) = nI (352 + 6 * k) from nI_add 352 _, nI_add]
      have e2 : (dia 1 - nI (min c 30) + nI k - (dia 1 - nI (min c 30) + nI k) / 30 * 30) * 6 + nI j = nI ((c - min c 30 + k) % 30 * 6 + j) := by
        rw [h4, nI_sub (show min c 30 ≤ c by omega), nI_add, show nI (c - min c 30 + k) - nI (c - min c 30 + k) / 30 * 30 = nI ((c - min c 30 + k) % 30) from pk_rem (a := c - min c 30 + k) (d := 30) (by omega) (by decide) (by decide), (m6 (by omega)).1, nI_add, show 6 * ((c - min c 30 + k) % 30) + j = (c - min c 30 + k) % 30 * 6 + j by omega]
      have v1 : vp_in (nI (352 + 6 * k + j)) 532 := vp_in_nI (by omega) (by decide)
      have v2 : vp_in (nI ((c - min c 30 + k) % 30 * 6 + j)) 180 := vp_in_nI (by omega) (by decide)
      have c1 : (nI (352 + 6 * k + j)).toNatClampNeg = 352 + 6 * k + j := nI_clamp (by omega)
      have c2 : (nI ((c - min c 30 + k) % 30 * 6 + j)).toNatClampNeg = (c - min c 30 + k) % 30 * 6 + j := nI_clamp (by omega)
      have hv := h6 k j pk (by omega)
      exact ⟨by simp only [OX10_meeting, n5, z10, i1, e1, v1, if_true, if_false, true_implies, false_implies, implies_true, not_true_eq_false, not_false_eq_true, and_true, true_and, and_self, or_true, true_or], by simp only [FX10_meeting, FX0_tell, n5, z10, i1, e1, c1, ml, p2, p4, d1, d2, e2, c2, hv, if_true, if_false], by simp only [OX0_tell, ml, p2, p4, d1, d2, e2, v2, if_true, if_false, true_implies, false_implies, implies_true, not_true_eq_false, not_false_eq_true, and_true, true_and, and_self, or_true, true_or]⟩
    · have i1 : FX10_isIn y 0 5 = 0 := (isIn_0 (a := 0) (c := 5) (by decide) (by decide) hy).1
      have i2 : y < 0 ∨ 5 < y := (isIn_0 (a := 0) (c := 5) (by decide) (by decide) hy).2
      have om : OX10_meeting (nI k) y f n := by simp only [OX10_meeting, n5, z10, i1, if_true, if_false, true_implies, false_implies, implies_true, not_true_eq_false, not_false_eq_true, and_true, true_and, and_self, or_true, true_or]
      have fm : FX10_meeting (nI k) y f n = (-1, upd f 0 0) := by simp only [FX10_meeting, n5, z10, i1, if_true, if_false]
      rw [fm]
      by_cases d1 : y < 0
      · exact ⟨om, by simp only [FX0_tell, ml, p2, p4, d1, if_true, if_false], by simp only [OX0_tell, ml, p2, p4, d1, if_true, if_false, true_implies, false_implies, implies_true, not_true_eq_false, not_false_eq_true, and_true, true_and, and_self, or_true, true_or]⟩
      · have d2 : ¬ y < 6 := by
          intro q
          obtain ⟨j, hj, rfl⟩ := nI_of d1
          rcases Nat.lt_or_ge j 6 with r | r
          · exact hy ⟨j, by omega, by omega, rfl⟩
          · exact absurd q (nI_nlt (a := j) (b := 6) r (by omega))
        exact ⟨om, by simp only [FX0_tell, ml, p2, p4, d1, d2, if_true, if_false], by simp only [OX0_tell, ml, p2, p4, d1, d2, if_true, if_false, true_implies, false_implies, implies_true, not_true_eq_false, not_false_eq_true, and_true, true_and, and_self, or_true, true_or]⟩
  · rw [p1] at n5
    have om : OX10_meeting x y f n := by simp only [OX10_meeting, n5, if_true, if_false, true_implies, false_implies, implies_true, not_true_eq_false, not_false_eq_true, and_true, true_and, and_self, or_true, true_or]
    have fm : FX10_meeting x y f n = (-1, upd f 0 0) := by simp only [FX10_meeting, n5, if_true]
    rw [fm]
    rcases p2 with d1 | ⟨d1, d2⟩
    · exact ⟨om, by simp only [FX0_tell, d1, if_true], by simp only [OX0_tell, d1, if_true, if_false, true_implies, false_implies, implies_true, not_true_eq_false, not_false_eq_true, and_true, true_and, and_self, or_true, true_or]⟩
    · have d3 : nI (min c 30) ≤ x := (le_or (x := nI (min c 30)) (y := x)).resolve_right d2
      exact ⟨om, by simp only [FX0_tell, ml, d1, d3, if_true, if_false], by simp only [OX0_tell, ml, d1, d3, if_true, if_false, true_implies, false_implies, implies_true, not_true_eq_false, not_false_eq_true, and_true, true_and, and_self, or_true, true_or]⟩
