/-! PURE: a link is told (GENERATED, wip/gen/p/43.py) -/
theorem q_link_00 {l g n f : mF} (h : RLk l 154 g) (hn : ∀ k, k < 174 → n (0 + k) = g k) {x : Int32} : OX10_link 0 0 x f n ∧ FX10_link 0 0 x f n = (FX2_tell x l, upd f 0 0) := by
  have k0 : ((((FX10_base 0 + 154) + (10 * 0)) + 0) : Int32).toNatClampNeg = 154 := by decide
  have v0 : vp_in ((((FX10_base 0 + 154) + (10 * 0)) + 0) : Int32) 532 := by
    rw [show ((((FX10_base 0 + 154) + (10 * 0)) + 0) : Int32) = nI 154 by decide]
    exact vp_in_nI (by decide) (by decide)
  have n0 : n 154 = g 154 := hn 154 (by decide)
  have k2 : ((((FX10_base 0 + 154) + (10 * 0)) + 2) : Int32).toNatClampNeg = 156 := by decide
  have v2 : vp_in ((((FX10_base 0 + 154) + (10 * 0)) + 2) : Int32) 532 := by
    rw [show ((((FX10_base 0 + 154) + (10 * 0)) + 2) : Int32) = nI 156 by decide]
    exact vp_in_nI (by decide) (by decide)
  have n2 : n 156 = g 156 := hn 156 (by decide)
  have k4 : ((((FX10_base 0 + 154) + (10 * 0)) + 4) : Int32).toNatClampNeg = 158 := by decide
  have v4 : vp_in ((((FX10_base 0 + 154) + (10 * 0)) + 4) : Int32) 532 := by
    rw [show ((((FX10_base 0 + 154) + (10 * 0)) + 4) : Int32) = nI 158 by decide]
    exact vp_in_nI (by decide) (by decide)
  have n4 : n 158 = g 158 := hn 158 (by decide)
  have k6 : ((((FX10_base 0 + 154) + (10 * 0)) + 6) : Int32).toNatClampNeg = 160 := by decide
  have v6 : vp_in ((((FX10_base 0 + 154) + (10 * 0)) + 6) : Int32) 532 := by
    rw [show ((((FX10_base 0 + 154) + (10 * 0)) + 6) : Int32) = nI 160 by decide]
    exact vp_in_nI (by decide) (by decide)
  have n6 : n 160 = g 160 := hn 160 (by decide)
  have k7 : ((((FX10_base 0 + 154) + (10 * 0)) + 7) : Int32).toNatClampNeg = 161 := by decide
  have v7 : vp_in ((((FX10_base 0 + 154) + (10 * 0)) + 7) : Int32) 532 := by
    rw [show ((((FX10_base 0 + 154) + (10 * 0)) + 7) : Int32) = nI 161 by decide]
    exact vp_in_nI (by decide) (by decide)
  have n7 : n 161 = g 161 := hn 161 (by decide)
  have k8 : ((((FX10_base 0 + 154) + (10 * 0)) + 8) : Int32).toNatClampNeg = 162 := by decide
  have v8 : vp_in ((((FX10_base 0 + 154) + (10 * 0)) + 8) : Int32) 532 := by
    rw [show ((((FX10_base 0 + 154) + (10 * 0)) + 8) : Int32) = nI 162 by decide]
    exact vp_in_nI (by decide) (by decide)
  have n8 : n 162 = g 162 := hn 162 (by decide)
  have k9 : ((((FX10_base 0 + 154) + (10 * 0)) + 9) : Int32).toNatClampNeg = 163 := by decide
  have v9 : vp_in ((((FX10_base 0 + 154) + (10 * 0)) + 9) : Int32) 532 := by
    rw [show ((((FX10_base 0 + 154) + (10 * 0)) + 9) : Int32) = nI 163 by decide]
    exact vp_in_nI (by decide) (by decide)
  have n9 : n 163 = g 163 := hn 163 (by decide)
  have m1 : FX10_isMachine 0 = 1 := by decide
  have m2 : FX10_isIn 0 0 1 = 1 := by decide
  have om : OX10_isMachine 0 := by
    unfold OX10_isMachine
    exact Or.inr (by decide)
  have z10 : ¬ (1 : Int32) = 0 := by decide
  obtain ⟨⟨b1, b2, b3⟩, ⟨b4, b5, b6⟩, ⟨b7, b8, b9⟩, c1, c2⟩ := h
  have b4 : g 158 = l 4 := b4
  have b7 : g 161 = l 7 := b7
  have c1 : g 163 = l 9 := c1
  have w2 : ¬ l 0 = -1 → g 156 = l 2 := fun q => (b2 q).2.2.1
  have w6 : ¬ l 4 = -1 → g 160 = l 6 := fun q => (b5 q).2.2.1
  constructor
  · simp only [OX10_link, om, m1, m2, z10, k0, k2, k4, k6, k7, k8, k9, v0, v2, v4, v6, v7, v8, v9, if_true, if_false, true_implies, false_implies, implies_true, not_true_eq_false, not_false_eq_true, and_true, true_and, and_self, or_true, true_or]
  · simp only [FX10_link, FX2_tell, m1, m2, z10, k0, k2, k4, k6, k7, k8, k9, n0, n2, n4, n6, n7, n8, n9, b1, b4, b7, c1, if_false]
    by_cases x0 : x = 0
    · rw [if_pos x0, if_pos x0]
    rw [if_neg x0, if_neg x0]
    by_cases x1 : x = 1
    · rw [if_pos x1, if_pos x1]
      by_cases q : l 0 = -1
      · rw [if_pos q, b3 q]
      · rw [if_neg q, w2 q]
    rw [if_neg x1, if_neg x1]
    by_cases x2 : x = 2
    · rw [if_pos x2, if_pos x2]
    rw [if_neg x2, if_neg x2]
    by_cases x3 : x = 3
    · rw [if_pos x3, if_pos x3]
      by_cases q : l 4 = -1
      · rw [if_pos q, b6 q]
      · rw [if_neg q, w6 q]
    rw [if_neg x3, if_neg x3]
    by_cases x4 : x = 4
    · rw [if_pos x4, if_pos x4]
      rcases b8 with q | q
      · rw [q]; rfl
      · rw [q]; rfl
    rw [if_neg x4, if_neg x4]
    by_cases x5 : x = 5
    · rw [if_pos x5, if_pos x5]
      rcases b8 with q | q
      · rw [if_pos q, if_pos q]
      · have q0 : ¬ l 7 = 0 := by rw [q]; decide
        rw [if_neg q0, if_neg q0]
        exact congrArg (fun u => (u, upd f 0 0)) (b9 q)
    rw [if_neg x5, if_neg x5]
    by_cases x6 : x = 6
    · rw [if_pos x6, if_pos x6]
    rw [if_neg x6, if_neg x6]
theorem q_link_01 {l g n f : mF} (h : RLk l 164 g) (hn : ∀ k, k < 174 → n (0 + k) = g k) {x : Int32} : OX10_link 0 1 x f n ∧ FX10_link 0 1 x f n = (FX2_tell x l, upd f 0 0) := by
  have k0 : ((((FX10_base 0 + 154) + (10 * 1)) + 0) : Int32).toNatClampNeg = 164 := by decide
  have v0 : vp_in ((((FX10_base 0 + 154) + (10 * 1)) + 0) : Int32) 532 := by
    rw [show ((((FX10_base 0 + 154) + (10 * 1)) + 0) : Int32) = nI 164 by decide]
    exact vp_in_nI (by decide) (by decide)
  have n0 : n 164 = g 164 := hn 164 (by decide)
  have k2 : ((((FX10_base 0 + 154) + (10 * 1)) + 2) : Int32).toNatClampNeg = 166 := by decide
  have v2 : vp_in ((((FX10_base 0 + 154) + (10 * 1)) + 2) : Int32) 532 := by
    rw [show ((((FX10_base 0 + 154) + (10 * 1)) + 2) : Int32) = nI 166 by decide]
    exact vp_in_nI (by decide) (by decide)
  have n2 : n 166 = g 166 := hn 166 (by decide)
  have k4 : ((((FX10_base 0 + 154) + (10 * 1)) + 4) : Int32).toNatClampNeg = 168 := by decide
  have v4 : vp_in ((((FX10_base 0 + 154) + (10 * 1)) + 4) : Int32) 532 := by
    rw [show ((((FX10_base 0 + 154) + (10 * 1)) + 4) : Int32) = nI 168 by decide]
    exact vp_in_nI (by decide) (by decide)
  have n4 : n 168 = g 168 := hn 168 (by decide)
  have k6 : ((((FX10_base 0 + 154) + (10 * 1)) + 6) : Int32).toNatClampNeg = 170 := by decide
  have v6 : vp_in ((((FX10_base 0 + 154) + (10 * 1)) + 6) : Int32) 532 := by
    rw [show ((((FX10_base 0 + 154) + (10 * 1)) + 6) : Int32) = nI 170 by decide]
    exact vp_in_nI (by decide) (by decide)
  have n6 : n 170 = g 170 := hn 170 (by decide)
  have k7 : ((((FX10_base 0 + 154) + (10 * 1)) + 7) : Int32).toNatClampNeg = 171 := by decide
  have v7 : vp_in ((((FX10_base 0 + 154) + (10 * 1)) + 7) : Int32) 532 := by
    rw [show ((((FX10_base 0 + 154) + (10 * 1)) + 7) : Int32) = nI 171 by decide]
    exact vp_in_nI (by decide) (by decide)
  have n7 : n 171 = g 171 := hn 171 (by decide)
  have k8 : ((((FX10_base 0 + 154) + (10 * 1)) + 8) : Int32).toNatClampNeg = 172 := by decide
  have v8 : vp_in ((((FX10_base 0 + 154) + (10 * 1)) + 8) : Int32) 532 := by
    rw [show ((((FX10_base 0 + 154) + (10 * 1)) + 8) : Int32) = nI 172 by decide]
    exact vp_in_nI (by decide) (by decide)
  have n8 : n 172 = g 172 := hn 172 (by decide)
  have k9 : ((((FX10_base 0 + 154) + (10 * 1)) + 9) : Int32).toNatClampNeg = 173 := by decide
  have v9 : vp_in ((((FX10_base 0 + 154) + (10 * 1)) + 9) : Int32) 532 := by
    rw [show ((((FX10_base 0 + 154) + (10 * 1)) + 9) : Int32) = nI 173 by decide]
    exact vp_in_nI (by decide) (by decide)
  have n9 : n 173 = g 173 := hn 173 (by decide)
  have m1 : FX10_isMachine 0 = 1 := by decide
  have m2 : FX10_isIn 1 0 1 = 1 := by decide
  have om : OX10_isMachine 0 := by
    unfold OX10_isMachine
    exact Or.inr (by decide)
  have z10 : ¬ (1 : Int32) = 0 := by decide
  obtain ⟨⟨b1, b2, b3⟩, ⟨b4, b5, b6⟩, ⟨b7, b8, b9⟩, c1, c2⟩ := h
  have b4 : g 168 = l 4 := b4
  have b7 : g 171 = l 7 := b7
  have c1 : g 173 = l 9 := c1
  have w2 : ¬ l 0 = -1 → g 166 = l 2 := fun q => (b2 q).2.2.1
  have w6 : ¬ l 4 = -1 → g 170 = l 6 := fun q => (b5 q).2.2.1
  constructor
  · simp only [OX10_link, om, m1, m2, z10, k0, k2, k4, k6, k7, k8, k9, v0, v2, v4, v6, v7, v8, v9, if_true, if_false, true_implies, false_implies, implies_true, not_true_eq_false, not_false_eq_true, and_true, true_and, and_self, or_true, true_or]
  · simp only [FX10_link, FX2_tell, m1, m2, z10, k0, k2, k4, k6, k7, k8, k9, n0, n2, n4, n6, n7, n8, n9, b1, b4, b7, c1, if_false]
    by_cases x0 : x = 0
    · rw [if_pos x0, if_pos x0]
    rw [if_neg x0, if_neg x0]
    by_cases x1 : x = 1
    · rw [if_pos x1, if_pos x1]
      by_cases q : l 0 = -1
      · rw [if_pos q, b3 q]
      · rw [if_neg q, w2 q]
    rw [if_neg x1, if_neg x1]
    by_cases x2 : x = 2
    · rw [if_pos x2, if_pos x2]
    rw [if_neg x2, if_neg x2]
    by_cases x3 : x = 3
    · rw [if_pos x3, if_pos x3]
      by_cases q : l 4 = -1
      · rw [if_pos q, b6 q]
      · rw [if_neg q, w6 q]
    rw [if_neg x3, if_neg x3]
    by_cases x4 : x = 4
    · rw [if_pos x4, if_pos x4]
      rcases b8 with q | q
      · rw [q]; rfl
      · rw [q]; rfl
    rw [if_neg x4, if_neg x4]
    by_cases x5 : x = 5
    · rw [if_pos x5, if_pos x5]
      rcases b8 with q | q
      · rw [if_pos q, if_pos q]
      · have q0 : ¬ l 7 = 0 := by rw [q]; decide
        rw [if_neg q0, if_neg q0]
        exact congrArg (fun u => (u, upd f 0 0)) (b9 q)
    rw [if_neg x5, if_neg x5]
    by_cases x6 : x = 6
    · rw [if_pos x6, if_pos x6]
    rw [if_neg x6, if_neg x6]
theorem q_link_10 {l g n f : mF} (h : RLk l 154 g) (hn : ∀ k, k < 174 → n (174 + k) = g k) {x : Int32} : OX10_link 1 0 x f n ∧ FX10_link 1 0 x f n = (FX2_tell x l, upd f 0 0) := by
  have k0 : ((((FX10_base 1 + 154) + (10 * 0)) + 0) : Int32).toNatClampNeg = 328 := by decide
  have v0 : vp_in ((((FX10_base 1 + 154) + (10 * 0)) + 0) : Int32) 532 := by
    rw [show ((((FX10_base 1 + 154) + (10 * 0)) + 0) : Int32) = nI 328 by decide]
    exact vp_in_nI (by decide) (by decide)
  have n0 : n 328 = g 154 := hn 154 (by decide)
  have k2 : ((((FX10_base 1 + 154) + (10 * 0)) + 2) : Int32).toNatClampNeg = 330 := by decide
  have v2 : vp_in ((((FX10_base 1 + 154) + (10 * 0)) + 2) : Int32) 532 := by
    rw [show ((((FX10_base 1 + 154) + (10 * 0)) + 2) : Int32) = nI 330 by decide]
    exact vp_in_nI (by decide) (by decide)
  have n2 : n 330 = g 156 := hn 156 (by decide)
  have k4 : ((((FX10_base 1 + 154) + (10 * 0)) + 4) : Int32).toNatClampNeg = 332 := by decide
  have v4 : vp_in ((((FX10_base 1 + 154) + (10 * 0)) + 4) : Int32) 532 := by
    rw [show ((((FX10_base 1 + 154) + (10 * 0)) + 4) : Int32) = nI 332 by decide]
    exact vp_in_nI (by decide) (by decide)
  have n4 : n 332 = g 158 := hn 158 (by decide)
  have k6 : ((((FX10_base 1 + 154) + (10 * 0)) + 6) : Int32).toNatClampNeg = 334 := by decide
  have v6 : vp_in ((((FX10_base 1 + 154) + (10 * 0)) + 6) : Int32) 532 := by
    rw [show ((((FX10_base 1 + 154) + (10 * 0)) + 6) : Int32) = nI 334 by decide]
    exact vp_in_nI (by decide) (by decide)
  have n6 : n 334 = g 160 := hn 160 (by decide)
  have k7 : ((((FX10_base 1 + 154) + (10 * 0)) + 7) : Int32).toNatClampNeg = 335 := by decide
  have v7 : vp_in ((((FX10_base 1 + 154) + (10 * 0)) + 7) : Int32) 532 := by
    rw [show ((((FX10_base 1 + 154) + (10 * 0)) + 7) : Int32) = nI 335 by decide]
    exact vp_in_nI (by decide) (by decide)
  have n7 : n 335 = g 161 := hn 161 (by decide)
  have k8 : ((((FX10_base 1 + 154) + (10 * 0)) + 8) : Int32).toNatClampNeg = 336 := by decide
  have v8 : vp_in ((((FX10_base 1 + 154) + (10 * 0)) + 8) : Int32) 532 := by
    rw [show ((((FX10_base 1 + 154) + (10 * 0)) + 8) : Int32) = nI 336 by decide]
    exact vp_in_nI (by decide) (by decide)
  have n8 : n 336 = g 162 := hn 162 (by decide)
  have k9 : ((((FX10_base 1 + 154) + (10 * 0)) + 9) : Int32).toNatClampNeg = 337 := by decide
  have v9 : vp_in ((((FX10_base 1 + 154) + (10 * 0)) + 9) : Int32) 532 := by
    rw [show ((((FX10_base 1 + 154) + (10 * 0)) + 9) : Int32) = nI 337 by decide]
    exact vp_in_nI (by decide) (by decide)
  have n9 : n 337 = g 163 := hn 163 (by decide)
  have m1 : FX10_isMachine 1 = 1 := by decide
  have m2 : FX10_isIn 0 0 1 = 1 := by decide
  have om : OX10_isMachine 1 := by
    unfold OX10_isMachine
    exact Or.inr (by decide)
  have z10 : ¬ (1 : Int32) = 0 := by decide
  obtain ⟨⟨b1, b2, b3⟩, ⟨b4, b5, b6⟩, ⟨b7, b8, b9⟩, c1, c2⟩ := h
  have b4 : g 158 = l 4 := b4
  have b7 : g 161 = l 7 := b7
  have c1 : g 163 = l 9 := c1
  have w2 : ¬ l 0 = -1 → g 156 = l 2 := fun q => (b2 q).2.2.1
  have w6 : ¬ l 4 = -1 → g 160 = l 6 := fun q => (b5 q).2.2.1
  constructor
  · simp only [OX10_link, om, m1, m2, z10, k0, k2, k4, k6, k7, k8, k9, v0, v2, v4, v6, v7, v8, v9, if_true, if_false, true_implies, false_implies, implies_true, not_true_eq_false, not_false_eq_true, and_true, true_and, and_self, or_true, true_or]
  · simp only [FX10_link, FX2_tell, m1, m2, z10, k0, k2, k4, k6, k7, k8, k9, n0, n2, n4, n6, n7, n8, n9, b1, b4, b7, c1, if_false]
    by_cases x0 : x = 0
    · rw [if_pos x0, if_pos x0]
    rw [if_neg x0, if_neg x0]
    by_cases x1 : x = 1
    · rw [if_pos x1, if_pos x1]
      by_cases q : l 0 = -1
      · rw [if_pos q, b3 q]
      · rw [if_neg q, w2 q]
    rw [if_neg x1, if_neg x1]
    by_cases x2 : x = 2
    · rw [if_pos x2, if_pos x2]
    rw [if_neg x2, if_neg x2]
    by_cases x3 : x = 3
    · rw [if_pos x3, if_pos x3]
      by_cases q : l 4 = -1
      · rw [if_pos q, b6 q]
      · rw [if_neg q, w6 q]
    rw [if_neg x3, if_neg x3]
    by_cases x4 : x = 4
    · rw [if_pos x4, if_pos x4]
      rcases b8 with q | q
      · rw [q]; rfl
      · rw [q]; rfl
    rw [if_neg x4, if_neg x4]
    by_cases x5 : x = 5
    · rw [if_pos x5, if_pos x5]
      rcases b8 with q | q
      · rw [if_pos q, if_pos q]
      · have q0 : ¬ l 7 = 0 := by rw [q]; decide
        rw [if_neg q0, if_neg q0]
        exact congrArg (fun u => (u, upd f 0 0)) (b9 q)
    rw [if_neg x5, if_neg x5]
    by_cases x6 : x = 6
    · rw [if_pos x6, if_pos x6]
    rw [if_neg x6, if_neg x6]
theorem q_link_11 {l g n f : mF} (h : RLk l 164 g) (hn : ∀ k, k < 174 → n (174 + k) = g k) {x : Int32} : OX10_link 1 1 x f n ∧ FX10_link 1 1 x f n = (FX2_tell x l, upd f 0 0) := by
  have k0 : ((((FX10_base 1 + 154) + (10 * 1)) + 0) : Int32).toNatClampNeg = 338 := by decide
  have v0 : vp_in ((((FX10_base 1 + 154) + (10 * 1)) + 0) : Int32) 532 := by
    rw [show ((((FX10_base 1 + 154) + (10 * 1)) + 0) : Int32) = nI 338 by decide]
    exact vp_in_nI (by decide) (by decide)
  have n0 : n 338 = g 164 := hn 164 (by decide)
  have k2 : ((((FX10_base 1 + 154) + (10 * 1)) + 2) : Int32).toNatClampNeg = 340 := by decide
  have v2 : vp_in ((((FX10_base 1 + 154) + (10 * 1)) + 2) : Int32) 532 := by
    rw [show ((((FX10_base 1 + 154) + (10 * 1)) + 2) : Int32) = nI 340 by decide]
    exact vp_in_nI (by decide) (by decide)
  have n2 : n 340 = g 166 := hn 166 (by decide)
  have k4 : ((((FX10_base 1 + 154) + (10 * 1)) + 4) : Int32).toNatClampNeg = 342 := by decide
  have v4 : vp_in ((((FX10_base 1 + 154) + (10 * 1)) + 4) : Int32) 532 := by
    rw [show ((((FX10_base 1 + 154) + (10 * 1)) + 4) : Int32) = nI 342 by decide]
    exact vp_in_nI (by decide) (by decide)
  have n4 : n 342 = g 168 := hn 168 (by decide)
  have k6 : ((((FX10_base 1 + 154) + (10 * 1)) + 6) : Int32).toNatClampNeg = 344 := by decide
  have v6 : vp_in ((((FX10_base 1 + 154) + (10 * 1)) + 6) : Int32) 532 := by
    rw [show ((((FX10_base 1 + 154) + (10 * 1)) + 6) : Int32) = nI 344 by decide]
    exact vp_in_nI (by decide) (by decide)
  have n6 : n 344 = g 170 := hn 170 (by decide)
  have k7 : ((((FX10_base 1 + 154) + (10 * 1)) + 7) : Int32).toNatClampNeg = 345 := by decide
  have v7 : vp_in ((((FX10_base 1 + 154) + (10 * 1)) + 7) : Int32) 532 := by
    rw [show ((((FX10_base 1 + 154) + (10 * 1)) + 7) : Int32) = nI 345 by decide]
    exact vp_in_nI (by decide) (by decide)
  have n7 : n 345 = g 171 := hn 171 (by decide)
  have k8 : ((((FX10_base 1 + 154) + (10 * 1)) + 8) : Int32).toNatClampNeg = 346 := by decide
  have v8 : vp_in ((((FX10_base 1 + 154) + (10 * 1)) + 8) : Int32) 532 := by
    rw [show ((((FX10_base 1 + 154) + (10 * 1)) + 8) : Int32) = nI 346 by decide]
    exact vp_in_nI (by decide) (by decide)
  have n8 : n 346 = g 172 := hn 172 (by decide)
  have k9 : ((((FX10_base 1 + 154) + (10 * 1)) + 9) : Int32).toNatClampNeg = 347 := by decide
  have v9 : vp_in ((((FX10_base 1 + 154) + (10 * 1)) + 9) : Int32) 532 := by
    rw [show ((((FX10_base 1 + 154) + (10 * 1)) + 9) : Int32) = nI 347 by decide]
    exact vp_in_nI (by decide) (by decide)
  have n9 : n 347 = g 173 := hn 173 (by decide)
  have m1 : FX10_isMachine 1 = 1 := by decide
  have m2 : FX10_isIn 1 0 1 = 1 := by decide
  have om : OX10_isMachine 1 := by
    unfold OX10_isMachine
    exact Or.inr (by decide)
  have z10 : ¬ (1 : Int32) = 0 := by decide
  obtain ⟨⟨b1, b2, b3⟩, ⟨b4, b5, b6⟩, ⟨b7, b8, b9⟩, c1, c2⟩ := h
  have b4 : g 168 = l 4 := b4
  have b7 : g 171 = l 7 := b7
  have c1 : g 173 = l 9 := c1
  have w2 : ¬ l 0 = -1 → g 166 = l 2 := fun q => (b2 q).2.2.1
  have w6 : ¬ l 4 = -1 → g 170 = l 6 := fun q => (b5 q).2.2.1
  constructor
  · simp only [OX10_link, om, m1, m2, z10, k0, k2, k4, k6, k7, k8, k9, v0, v2, v4, v6, v7, v8, v9, if_true, if_false, true_implies, false_implies, implies_true, not_true_eq_false, not_false_eq_true, and_true, true_and, and_self, or_true, true_or]
  · simp only [FX10_link, FX2_tell, m1, m2, z10, k0, k2, k4, k6, k7, k8, k9, n0, n2, n4, n6, n7, n8, n9, b1, b4, b7, c1, if_false]
    by_cases x0 : x = 0
    · rw [if_pos x0, if_pos x0]
    rw [if_neg x0, if_neg x0]
    by_cases x1 : x = 1
    · rw [if_pos x1, if_pos x1]
      by_cases q : l 0 = -1
      · rw [if_pos q, b3 q]
      · rw [if_neg q, w2 q]
    rw [if_neg x1, if_neg x1]
    by_cases x2 : x = 2
    · rw [if_pos x2, if_pos x2]
    rw [if_neg x2, if_neg x2]
    by_cases x3 : x = 3
    · rw [if_pos x3, if_pos x3]
      by_cases q : l 4 = -1
      · rw [if_pos q, b6 q]
      · rw [if_neg q, w6 q]
    rw [if_neg x3, if_neg x3]
    by_cases x4 : x = 4
    · rw [if_pos x4, if_pos x4]
      rcases b8 with q | q
      · rw [q]; rfl
      · rw [q]; rfl
    rw [if_neg x4, if_neg x4]
    by_cases x5 : x = 5
    · rw [if_pos x5, if_pos x5]
      rcases b8 with q | q
      · rw [if_pos q, if_pos q]
      · have q0 : ¬ l 7 = 0 := by rw [q]; decide
        rw [if_neg q0, if_neg q0]
        exact congrArg (fun u => (u, upd f 0 0)) (b9 q)
    rw [if_neg x5, if_neg x5]
    by_cases x6 : x = 6
    · rw [if_pos x6, if_pos x6]
    rw [if_neg x6, if_neg x6]
