/-! PURE: a timer is told (GENERATED, wip/gen/p/44.py) -/
theorem nI_01 : nI 0 = 0 ∧ nI 1 = 1 := by decide
theorem q_timer_0 {tz tp tt tb g n f : mF} (h : RT tz tp tt tb g) (hn : ∀ k, k < 174 → n (0 + k) = g k) {x y : Int32} : OX10_timer 0 x y f n ∧ FX10_timer 0 x y f n = (FX6_tell x y tz tp tt, upd f 0 0) ∧ OX6_tell x y tz tp tt := by
  obtain ⟨L, h1, h2, h3, h4, -⟩ := h
  have m1 : FX10_isMachine 0 = 1 := by decide
  have om : OX10_isMachine 0 := by
    unfold OX10_isMachine
    exact Or.inr (by decide)
  have z10 : ¬ (1 : Int32) = 0 := by decide
  have k0 : (FX10_base 0 + 117 : Int32).toNatClampNeg = 117 := by decide
  have v0 : vp_in (FX10_base 0 + 117 : Int32) 532 := by
    rw [show (FX10_base 0 + 117 : Int32) = nI 117 by decide]
    exact vp_in_nI (by decide) (by decide)
  have n0 : n 117 = nI L := (hn 117 (by decide)).trans h3
  have e0 : FX10_base 0 + 118 = nI 118 := by decide
  by_cases a : x = -1
  · subst a
    have q0 : (-1 : Int32) < 0 := by decide
    by_cases c : y = 0
    · refine ⟨by simp only [OX10_timer, om, m1, z10, v0, c, if_true, if_false, true_implies, false_implies, implies_true, not_true_eq_false, not_false_eq_true, and_true, true_and, and_self, or_true, true_or], by simp only [FX10_timer, FX6_tell, m1, z10, k0, n0, h2, c, if_true, if_false], by simp only [OX6_tell, c, if_true, if_false, true_implies, false_implies, implies_true, not_true_eq_false, not_false_eq_true, and_true, true_and, and_self, or_true, true_or]⟩
    · refine ⟨by simp only [OX10_timer, om, m1, z10, v0, c, if_true, if_false, true_implies, false_implies, implies_true, not_true_eq_false, not_false_eq_true, and_true, true_and, and_self, or_true, true_or], by simp only [FX10_timer, FX6_tell, m1, z10, c, q0, if_true, if_false], by simp only [OX6_tell, c, q0, if_true, if_false, true_implies, false_implies, implies_true, not_true_eq_false, not_false_eq_true, and_true, true_and, and_self, or_true, true_or]⟩
  · rcases inPrg (x := x) (L := L) (by omega) with ⟨p1, p2, p3, k, pk, rfl⟩ | ⟨p1, p2⟩
    · have p4 : ¬ nI L ≤ nI k := lt_no p3
      have ek : (nI k).toNatClampNeg = k := nI_clamp (by omega)
      have vk : vp_in (nI k) 12 := vp_in_nI (by omega) (by decide)
      obtain ⟨r1, r2, r3, -⟩ := h4 k pk
      have e3 : FX10_base 0 + 118 + 3 * nI k = nI (118 + 3 * k) := by rw [e0, m3 (by omega), nI_add]
      by_cases c : ∃ j : Nat, 0 ≤ j ∧ j ≤ 1 ∧ y = nI j
      · obtain ⟨j, -, j1, rfl⟩ := c
        rcases (show j = 0 ∨ j = 1 by omega) with rfl | rfl
        · have i1 : FX10_isIn 0 0 1 = 1 := by decide
          have u1 : (nI (118 + 3 * k) + 0).toNatClampNeg = 0 + (118 + 3 * k) := by
            rw [show nI (118 + 3 * k) + 0 = nI (118 + 3 * k) from nI_add _ 0, nI_clamp (by omega)]
            omega
          have u2 : vp_in (nI (118 + 3 * k) + 0) 532 := by
            rw [show nI (118 + 3 * k) + 0 = nI (118 + 3 * k) from nI_add _ 0]
            exact vp_in_nI (by omega) (by decide)
          have d1 : ¬ (0 : Int32) < 0 := by decide
          have d2 : (0 : Int32) ≤ 1 := by decide
          rw [nI_01.1]
          refine ⟨by simp only [OX10_timer, om, m1, z10, k0, v0, n0, a, p1, i1, e3, u2, if_true, if_false, true_implies, false_implies, implies_true, not_true_eq_false, not_false_eq_true, and_true, true_and, and_self, or_true, true_or], by simp only [FX10_timer, FX6_tell, m1, z10, k0, n0, h2, a, p1, p2, p4, i1, e3, u1, hn (118 + 3 * k) (by omega), r1, ek, d1, d2, if_true, if_false], by simp only [OX6_tell, a, p2, h2, p4, d1, d2, vk, if_true, if_false, true_implies, false_implies, implies_true, not_true_eq_false, not_false_eq_true, and_true, true_and, and_self, or_true, true_or]⟩
        · have i1 : FX10_isIn 1 0 1 = 1 := by decide
          have u1 : (nI (118 + 3 * k) + 1).toNatClampNeg = 0 + (119 + 3 * k) := by
            rw [nI_1, nI_clamp (by omega)]
            omega
          have u2 : vp_in (nI (118 + 3 * k) + 1) 532 := by
            rw [nI_1]
            exact vp_in_nI (by omega) (by decide)
          have d1 : ¬ (1 : Int32) < 0 := by decide
          have d2 : (1 : Int32) ≤ 1 := by decide
          rw [nI_01.2]
          refine ⟨by simp only [OX10_timer, om, m1, z10, k0, v0, n0, a, p1, i1, e3, u2, if_true, if_false, true_implies, false_implies, implies_true, not_true_eq_false, not_false_eq_true, and_true, true_and, and_self, or_true, true_or], by simp only [FX10_timer, FX6_tell, m1, z10, k0, n0, h2, a, p1, p2, p4, i1, e3, u1, hn (119 + 3 * k) (by omega), r2, ek, d1, d2, if_true, if_false], by simp only [OX6_tell, a, p2, h2, p4, d1, d2, z10, vk, if_true, if_false, true_implies, false_implies, implies_true, not_true_eq_false, not_false_eq_true, and_true, true_and, and_self, or_true, true_or]⟩
      · obtain ⟨i1, i2⟩ := isIn_0 (a := 0) (c := 1) (by decide) (by decide) c
        rw [nI_01.1, nI_01.2] at i1 i2
        have c2 : y < 0 ∨ (¬ y < 0 ∧ ¬ y ≤ 1) := by
          by_cases t : y < 0
          · exact Or.inl t
          · exact Or.inr ⟨t, lt_no (i2.resolve_left t)⟩
        refine ⟨by simp only [OX10_timer, om, m1, z10, k0, v0, n0, a, p1, i1, if_true, if_false, true_implies, false_implies, implies_true, not_true_eq_false, not_false_eq_true, and_true, true_and, and_self, or_true, true_or], ?_⟩
        rcases c2 with d1 | ⟨d1, d2⟩
        · exact ⟨by simp only [FX10_timer, FX6_tell, m1, z10, k0, n0, h2, a, p1, p2, p4, i1, d1, if_true, if_false], by simp only [OX6_tell, a, p2, h2, p4, d1, if_true, if_false, true_implies, false_implies, implies_true, not_true_eq_false, not_false_eq_true, and_true, true_and, and_self, or_true, true_or]⟩
        · exact ⟨by simp only [FX10_timer, FX6_tell, m1, z10, k0, n0, h2, a, p1, p2, p4, i1, d1, d2, if_true, if_false], by simp only [OX6_tell, a, p2, h2, p4, d1, d2, if_true, if_false, true_implies, false_implies, implies_true, not_true_eq_false, not_false_eq_true, and_true, true_and, and_self, or_true, true_or]⟩
    · refine ⟨by simp only [OX10_timer, om, m1, z10, k0, v0, n0, a, p1, if_true, if_false, true_implies, false_implies, implies_true, not_true_eq_false, not_false_eq_true, and_true, true_and, and_self, or_true, true_or], ?_⟩
      rcases p2 with d1 | ⟨d1, d2⟩
      · exact ⟨by simp only [FX10_timer, FX6_tell, m1, z10, k0, n0, a, p1, d1, if_true, if_false], by simp only [OX6_tell, a, d1, if_true, if_false, true_implies, false_implies, implies_true, not_true_eq_false, not_false_eq_true, and_true, true_and, and_self, or_true, true_or]⟩
      · have d3 : nI L ≤ x := (le_or (x := nI L) (y := x)).resolve_right d2
        exact ⟨by simp only [FX10_timer, FX6_tell, m1, z10, k0, n0, h2, a, p1, d1, d3, if_true, if_false], by simp only [OX6_tell, a, h2, d1, d3, if_true, if_false, true_implies, false_implies, implies_true, not_true_eq_false, not_false_eq_true, and_true, true_and, and_self, or_true, true_or]⟩
theorem q_timer_1 {tz tp tt tb g n f : mF} (h : RT tz tp tt tb g) (hn : ∀ k, k < 174 → n (174 + k) = g k) {x y : Int32} : OX10_timer 1 x y f n ∧ FX10_timer 1 x y f n = (FX6_tell x y tz tp tt, upd f 0 0) ∧ OX6_tell x y tz tp tt := by
  obtain ⟨L, h1, h2, h3, h4, -⟩ := h
  have m1 : FX10_isMachine 1 = 1 := by decide
  have om : OX10_isMachine 1 := by
    unfold OX10_isMachine
    exact Or.inr (by decide)
  have z10 : ¬ (1 : Int32) = 0 := by decide
  have k0 : (FX10_base 1 + 117 : Int32).toNatClampNeg = 291 := by decide
  have v0 : vp_in (FX10_base 1 + 117 : Int32) 532 := by
    rw [show (FX10_base 1 + 117 : Int32) = nI 291 by decide]
    exact vp_in_nI (by decide) (by decide)
  have n0 : n 291 = nI L := (hn 117 (by decide)).trans h3
  have e0 : FX10_base 1 + 118 = nI 292 := by decide
  by_cases a : x = -1
  · subst a
    have q0 : (-1 : Int32) < 0 := by decide
    by_cases c : y = 0
    · refine ⟨by simp only [OX10_timer, om, m1, z10, v0, c, if_true, if_false, true_implies, false_implies, implies_true, not_true_eq_false, not_false_eq_true, and_true, true_and, and_self, or_true, true_or], by simp only [FX10_timer, FX6_tell, m1, z10, k0, n0, h2, c, if_true, if_false], by simp only [OX6_tell, c, if_true, if_false, true_implies, false_implies, implies_true, not_true_eq_false, not_false_eq_true, and_true, true_and, and_self, or_true, true_or]⟩
    · refine ⟨by simp only [OX10_timer, om, m1, z10, v0, c, if_true, if_false, true_implies, false_implies, implies_true, not_true_eq_false, not_false_eq_true, and_true, true_and, and_self, or_true, true_or], by simp only [FX10_timer, FX6_tell, m1, z10, c, q0, if_true, if_false], by simp only [OX6_tell, c, q0, if_true, if_false, true_implies, false_implies, implies_true, not_true_eq_false, not_false_eq_true, and_true, true_and, and_self, or_true, true_or]⟩
  · rcases inPrg (x := x) (L := L) (by omega) with ⟨p1, p2, p3, k, pk, rfl⟩ | ⟨p1, p2⟩
    · have p4 : ¬ nI L ≤ nI k := lt_no p3
      have ek : (nI k).toNatClampNeg = k := nI_clamp (by omega)
      have vk : vp_in (nI k) 12 := vp_in_nI (by omega) (by decide)
      obtain ⟨r1, r2, r3, -⟩ := h4 k pk
      have e3 : FX10_base 1 + 118 + 3 * nI k = nI (292 + 3 * k) := by rw [e0, m3 (by omega), nI_add]
      by_cases c : ∃ j : Nat, 0 ≤ j ∧ j ≤ 1 ∧ y = nI j
      · obtain ⟨j, -, j1, rfl⟩ := c
        rcases (show j = 0 ∨ j = 1 by omega) with rfl | rfl
        · have i1 : FX10_isIn 0 0 1 = 1 := by decide
          have u1 : (nI (292 + 3 * k) + 0).toNatClampNeg = 174 + (118 + 3 * k) := by
            rw [show nI (292 + 3 * k) + 0 = nI (292 + 3 * k) from nI_add _ 0, nI_clamp (by omega)]
            omega
          have u2 : vp_in (nI (292 + 3 * k) + 0) 532 := by
            rw [show nI (292 + 3 * k) + 0 = nI (292 + 3 * k) from nI_add _ 0]
            exact vp_in_nI (by omega) (by decide)
          have d1 : ¬ (0 : Int32) < 0 := by decide
          have d2 : (0 : Int32) ≤ 1 := by decide
          rw [nI_01.1]
          refine ⟨by simp only [OX10_timer, om, m1, z10, k0, v0, n0, a, p1, i1, e3, u2, if_true, if_false, true_implies, false_implies, implies_true, not_true_eq_false, not_false_eq_true, and_true, true_and, and_self, or_true, true_or], by simp only [FX10_timer, FX6_tell, m1, z10, k0, n0, h2, a, p1, p2, p4, i1, e3, u1, hn (118 + 3 * k) (by omega), r1, ek, d1, d2, if_true, if_false], by simp only [OX6_tell, a, p2, h2, p4, d1, d2, vk, if_true, if_false, true_implies, false_implies, implies_true, not_true_eq_false, not_false_eq_true, and_true, true_and, and_self, or_true, true_or]⟩
        · have i1 : FX10_isIn 1 0 1 = 1 := by decide
          have u1 : (nI (292 + 3 * k) + 1).toNatClampNeg = 174 + (119 + 3 * k) := by
            rw [nI_1, nI_clamp (by omega)]
            omega
          have u2 : vp_in (nI (292 + 3 * k) + 1) 532 := by
            rw [nI_1]
            exact vp_in_nI (by omega) (by decide)
          have d1 : ¬ (1 : Int32) < 0 := by decide
          have d2 : (1 : Int32) ≤ 1 := by decide
          rw [nI_01.2]
          refine ⟨by simp only [OX10_timer, om, m1, z10, k0, v0, n0, a, p1, i1, e3, u2, if_true, if_false, true_implies, false_implies, implies_true, not_true_eq_false, not_false_eq_true, and_true, true_and, and_self, or_true, true_or], by simp only [FX10_timer, FX6_tell, m1, z10, k0, n0, h2, a, p1, p2, p4, i1, e3, u1, hn (119 + 3 * k) (by omega), r2, ek, d1, d2, if_true, if_false], by simp only [OX6_tell, a, p2, h2, p4, d1, d2, z10, vk, if_true, if_false, true_implies, false_implies, implies_true, not_true_eq_false, not_false_eq_true, and_true, true_and, and_self, or_true, true_or]⟩
      · obtain ⟨i1, i2⟩ := isIn_0 (a := 0) (c := 1) (by decide) (by decide) c
        rw [nI_01.1, nI_01.2] at i1 i2
        have c2 : y < 0 ∨ (¬ y < 0 ∧ ¬ y ≤ 1) := by
          by_cases t : y < 0
          · exact Or.inl t
          · exact Or.inr ⟨t, lt_no (i2.resolve_left t)⟩
        refine ⟨by simp only [OX10_timer, om, m1, z10, k0, v0, n0, a, p1, i1, if_true, if_false, true_implies, false_implies, implies_true, not_true_eq_false, not_false_eq_true, and_true, true_and, and_self, or_true, true_or], ?_⟩
        rcases c2 with d1 | ⟨d1, d2⟩
        · exact ⟨by simp only [FX10_timer, FX6_tell, m1, z10, k0, n0, h2, a, p1, p2, p4, i1, d1, if_true, if_false], by simp only [OX6_tell, a, p2, h2, p4, d1, if_true, if_false, true_implies, false_implies, implies_true, not_true_eq_false, not_false_eq_true, and_true, true_and, and_self, or_true, true_or]⟩
        · exact ⟨by simp only [FX10_timer, FX6_tell, m1, z10, k0, n0, h2, a, p1, p2, p4, i1, d1, d2, if_true, if_false], by simp only [OX6_tell, a, p2, h2, p4, d1, d2, if_true, if_false, true_implies, false_implies, implies_true, not_true_eq_false, not_false_eq_true, and_true, true_and, and_self, or_true, true_or]⟩
    · refine ⟨by simp only [OX10_timer, om, m1, z10, k0, v0, n0, a, p1, if_true, if_false, true_implies, false_implies, implies_true, not_true_eq_false, not_false_eq_true, and_true, true_and, and_self, or_true, true_or], ?_⟩
      rcases p2 with d1 | ⟨d1, d2⟩
      · exact ⟨by simp only [FX10_timer, FX6_tell, m1, z10, k0, n0, a, p1, d1, if_true, if_false], by simp only [OX6_tell, a, d1, if_true, if_false, true_implies, false_implies, implies_true, not_true_eq_false, not_false_eq_true, and_true, true_and, and_self, or_true, true_or]⟩
      · have d3 : nI L ≤ x := (le_or (x := nI L) (y := x)).resolve_right d2
        exact ⟨by simp only [FX10_timer, FX6_tell, m1, z10, k0, n0, h2, a, p1, d1, d3, if_true, if_false], by simp only [OX6_tell, a, h2, d1, d3, if_true, if_false, true_implies, false_implies, implies_true, not_true_eq_false, not_false_eq_true, and_true, true_and, and_self, or_true, true_or]⟩
