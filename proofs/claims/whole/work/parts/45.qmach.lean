/-! PURE: a machine is told; who is halted (GENERATED, wip/gen/p/45.py) -/
theorem q_halted {ra ma za pa ta ba ka la rb mb zb pb tb bb kb lb n : mF} (hA : RM ra ma za pa ta ba ka la (fun k => n (0 + k))) (hB : RM rb mb zb pb tb bb kb lb (fun k => n (174 + k))) : FX8_haltedBits ra rb = FX10_halted n := by
  obtain ⟨-, a1, a2⟩ := hA.2.2.2.2.1
  obtain ⟨-, b1, b2⟩ := hB.2.2.2.2.1
  have a1 : n 97 = ra 19 := a1
  have b1 : n 271 = rb 19 := b1
  unfold FX8_haltedBits FX3_isHalted FX10_halted
  rw [a1, b1]
  rcases a2 with a2 | a2 <;> rcases b2 with b2 | b2 <;> rw [a2, b2] <;> decide
section QMA
variable {F n g reg mem tz tp tt tb l0 l1 : mF} {b : Nat} {z : Int32}
theorem q_mach (H : Hb F b) (h : RM reg mem tz tp tt tb l0 l1 g) {y z0 : Int32} (hz : (g 102 = 1 ∧ z0 = 1) ∨ (¬ g 102 = 1 ∧ z0 = 0)) : OX10_machine_b3 y z0 (fb F z) (emb b n g) ∧ FX10_machine_b3 y z0 (fb F z) (emb b n g) = (FX3_tell y reg tz, fb F z) ∧ OX3_tell y reg tz := by
  obtain ⟨hr, -, -, hR, ⟨c1, c2, -⟩, ⟨s, -, t1, t2, -⟩, -⟩ := h
  have e117 : g 117 = tz 0 := t2.trans t1.symm
  have z10 : ¬ (1 : Int32) = 0 := by decide
  have z01 : ¬ (0 : Int32) = 1 := by decide
  have r9 : (if g 110 = 1 then 2 * g 111 + 1 else -1) = if reg 11 = -1 then -1 else 2 * reg 11 + 1 := by
    rcases hR with ⟨a1, a2⟩ | ⟨a1, -, a2, a3, -⟩
    · rw [a1, a2, if_neg z01, if_pos rfl]
    · rw [a2, a3, if_pos rfl, if_neg (wNN a1)]
  have oo : OX10_machine_b3 y z0 (fb F z) (emb b n g) := by
    simp only [OX10_machine_b3, og106 H, og107 H, og108 H, og105 H, og103 H, og104 H, og96 H, og97 H, og109 H, og110 H, og111 H, og117 H, if_true, if_false, true_implies, false_implies, implies_true, not_true_eq_false, not_false_eq_true, and_true, true_and, and_self, or_true, true_or]
  refine ⟨oo, ?_⟩
  have n6 : ∀ k : Nat, k < 6 → ¬ nI k = 6 ∧ ¬ nI k = 7 ∧ ¬ nI k = 8 ∧ ¬ nI k = 9 ∧ ¬ nI k = 10 ∧ ¬ nI k < 0 ∧ ¬ 5 < nI k ∧ vp_in (nI k) 20 ∧ (nI k).toNatClampNeg = k := fun k hk => by
    refine ⟨?_, ?_, ?_, ?_, ?_, nI_pos (by omega), nI_nlt (a := 5) (b := k) (by omega) (by decide), vp_in_nI (by omega) (by decide), nI_clamp (by omega)⟩
    · intro q; have := (nI_eq (b := 6) (by omega) (by decide)).mp q; omega
    · intro q; have := (nI_eq (b := 7) (by omega) (by decide)).mp q; omega
    · intro q; have := (nI_eq (b := 8) (by omega) (by decide)).mp q; omega
    · intro q; have := (nI_eq (b := 9) (by omega) (by decide)).mp q; omega
    · intro q; have := (nI_eq (b := 10) (by omega) (by decide)).mp q; omega
  by_cases hy : ∃ k : Nat, 0 ≤ k ∧ k ≤ 5 ∧ y = nI k
  · obtain ⟨k, -, k5, rfl⟩ := hy
    obtain ⟨a6, a7, a8, a9, a10, a0, a5, av, ak⟩ := n6 k (by omega)
    have ot : OX3_tell (nI k) reg tz := by
      simp only [OX3_tell, a6, a7, a8, a9, a10, a0, a5, av, if_true, if_false, true_implies, false_implies, implies_true, not_true_eq_false, not_false_eq_true, and_true, true_and, and_self, or_true, true_or]
    refine ⟨?_, ot⟩
    have ct : FX3_tell (nI k) reg tz = if reg 4 = -1 then -1 else reg k := by
      simp only [FX3_tell, FX3_isRunning, a6, a7, a8, a9, a10, a0, a5, ak, if_false]
      by_cases q : reg 4 = -1
      · rw [if_pos q, if_pos rfl, if_pos q]
      · rw [if_neg q, if_neg z10, if_neg q]
    rw [ct]
    rcases hr with ⟨q1, q2⟩ | hOn
    · rcases hz with ⟨w1, -⟩ | ⟨-, rfl⟩
      · exact absurd (q2.symm.trans w1) z01
      · rw [if_pos q1]
        rcases (show k = 0 ∨ k = 1 ∨ k = 2 ∨ k = 3 ∨ k = 4 ∨ k = 5 by omega) with rfl | rfl | rfl | rfl | rfl | rfl <;> rfl
    · rcases hz with ⟨-, rfl⟩ | ⟨w1, -⟩
      · rw [if_neg (wNN hOn.1)]
        obtain ⟨-, -, o3, o4, -, o5, o6, o7, o8, -⟩ := hOn
        rcases (show k = 0 ∨ k = 1 ∨ k = 2 ∨ k = 3 ∨ k = 4 ∨ k = 5 by omega) with rfl | rfl | rfl | rfl | rfl | rfl
        · show (FX10_get 106 (fb F z) (emb b n g), fb F z) = _
          rw [g106 H, o6]
        · show (FX10_get 107 (fb F z) (emb b n g), fb F z) = _
          rw [g107 H, o7]
        · show (FX10_get 108 (fb F z) (emb b n g), fb F z) = _
          rw [g108 H, o8]
        · show (FX10_get 105 (fb F z) (emb b n g), fb F z) = _
          rw [g105 H, o5]
        · show (FX10_get 103 (fb F z) (emb b n g), fb F z) = _
          rw [g103 H, o3]
        · show (FX10_get 104 (fb F z) (emb b n g), fb F z) = _
          rw [g104 H, o4]
      · exact absurd hOn.2.1 w1
  · have m : ∀ k : Nat, k ≤ 5 → ¬ y = nI k := fun k hk q => hy ⟨k, by omega, hk, q⟩
    have m0 : ¬ y = 0 := m 0 (by decide)
    have m1 : ¬ y = 1 := m 1 (by decide)
    have m2 : ¬ y = 2 := m 2 (by decide)
    have m3 : ¬ y = 3 := m 3 (by decide)
    have m4 : ¬ y = 4 := m 4 (by decide)
    have m5 : ¬ y = 5 := m 5 (by decide)
    have hd : y < 0 ∨ (¬ y < 0 ∧ 5 < y) := by
      by_cases q : y < 0
      · exact Or.inl q
      · by_cases q2 : 5 < y
        · exact Or.inr ⟨q, q2⟩
        · exact absurd (between (a := 0) (c := 5) (by decide) (by decide) q q2) hy
    by_cases y6 : y = 6
    · exact ⟨by simp (decide := true) only [FX10_machine_b3, FX3_tell, y6, g96 H, c1, if_true, if_false], by simp (decide := true) only [OX3_tell, y6, if_true, if_false, true_implies, false_implies, implies_true, not_true_eq_false, not_false_eq_true, and_true, true_and, and_self, or_true, true_or]⟩
    by_cases y7 : y = 7
    · exact ⟨by simp (decide := true) only [FX10_machine_b3, FX3_tell, y7, g97 H, c2, if_true, if_false], by simp (decide := true) only [OX3_tell, y7, if_true, if_false, true_implies, false_implies, implies_true, not_true_eq_false, not_false_eq_true, and_true, true_and, and_self, or_true, true_or]⟩
    by_cases y8 : y = 8
    · refine ⟨?_, by simp (decide := true) only [OX3_tell, y8, if_true, if_false, true_implies, false_implies, implies_true, not_true_eq_false, not_false_eq_true, and_true, true_and, and_self, or_true, true_or]⟩
      rcases hr with ⟨q1, q2⟩ | hOn
      · rcases hz with ⟨w1, -⟩ | ⟨-, rfl⟩
        · exact absurd (q2.symm.trans w1) z01
        · simp (decide := true) only [FX10_machine_b3, FX3_tell, FX3_isRunning, y8, q1, if_true, if_false]
      · rcases hz with ⟨-, rfl⟩ | ⟨w1, -⟩
        · simp (decide := true) only [FX10_machine_b3, FX3_tell, FX3_isRunning, y8, wNN hOn.1, g109 H, hOn.2.2.2.2.2.2.2.2.2, if_true, if_false]
        · exact absurd hOn.2.1 w1
    by_cases y9 : y = 9
    · refine ⟨?_, by simp (decide := true) only [OX3_tell, y9, if_true, if_false, true_implies, false_implies, implies_true, not_true_eq_false, not_false_eq_true, and_true, true_and, and_self, or_true, true_or]⟩
      simp (decide := true) only [FX10_machine_b3, FX3_tell, y9, g110 H, g111 H, if_true, if_false]
      rw [← r9]
      split <;> rfl
    by_cases y10 : y = 10
    · exact ⟨by simp (decide := true) only [FX10_machine_b3, FX3_tell, y10, g117 H, e117, if_true, if_false], by simp (decide := true) only [OX3_tell, y10, if_true, if_false, true_implies, false_implies, implies_true, not_true_eq_false, not_false_eq_true, and_true, true_and, and_self, or_true, true_or]⟩
    have em : FX10_machine_b3 y z0 (fb F z) (emb b n g) = (-1, fb F z) := by
      simp only [FX10_machine_b3, m0, m1, m2, m3, m4, m5, y6, y7, y8, y9, y10, if_false]
    rw [em]
    rcases hd with d | ⟨d, d2⟩
    · exact ⟨by simp only [FX3_tell, y6, y7, y8, y9, y10, d, if_true, if_false], by simp only [OX3_tell, y6, y7, y8, y9, y10, d, if_true, if_false, true_implies, false_implies, implies_true, not_true_eq_false, not_false_eq_true, and_true, true_and, and_self, or_true, true_or]⟩
    · exact ⟨by simp only [FX3_tell, y6, y7, y8, y9, y10, d, d2, if_true, if_false], by simp only [OX3_tell, y6, y7, y8, y9, y10, d, d2, if_true, if_false, true_implies, false_implies, implies_true, not_true_eq_false, not_false_eq_true, and_true, true_and, and_self, or_true, true_or]⟩
end QMA
