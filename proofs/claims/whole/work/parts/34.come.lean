/-! PURE: who comes in time (GENERATED, wip/gen/p/34.py) -/
theorem RB0_tm {reg mem tz tp tt tb tz' tp' tt' tb' l0 l1 g g' : mF} (h : RB0 reg mem tz tp tt tb l0 l1 g) (hg : ∀ j, j < 117 ∨ 154 ≤ j → g' j = g j) (hT : RT tz' tp' tt' tb' g') : RB0 reg mem tz' tp' tt' tb' l0 l1 g' := by
  obtain ⟨h1, h2, h3, h4, h5, h6, h7⟩ := h
  exact ⟨RMem_c h1 (fun k hk => hg k (by omega)), RQ_c h2 (fun _ _ _ => rfl) (fun k a c => hg k (by omega)), RRest_c h3 (fun _ _ _ => rfl) (fun k a c => hg k (by omega)), RClk_c h4 (fun _ _ _ => rfl) (fun k a c => hg k (by omega)), hT, RLk_c h6 (fun k a c => hg k (by omega)), RLk_c h7 (fun k a c => hg k (by omega))⟩
section CIT
variable {f n l0 l1 : mF} {b : Nat}
theorem come_loop (H : Hb f b) : ∀ (m i fuel : Nat) (reg mem tz tp tt tb g : mF), tz 0 = nI (i + m) → i + m ≤ 12 → m < fuel → RB0 reg mem tz tp tt tb l0 l1 g → OX3_endWaits_b1 fuel (nI i) (nI m) reg mem tz tp tt tb ∧ OX10_comeInTime_b1 fuel (nI i) (fb f 0) (emb b n g) ∧ ∃ g', FX10_comeInTime_b1 fuel (nI i) (fb f 0) (emb b n g) = (fb f 0, emb b n g') ∧ RB0 (FX3_endWaits_b1 fuel (nI i) (nI m) reg mem tz tp tt tb).1 (FX3_endWaits_b1 fuel (nI i) (nI m) reg mem tz tp tt tb).2.1 (FX3_endWaits_b1 fuel (nI i) (nI m) reg mem tz tp tt tb).2.2.1 (FX3_endWaits_b1 fuel (nI i) (nI m) reg mem tz tp tt tb).2.2.2.1 (FX3_endWaits_b1 fuel (nI i) (nI m) reg mem tz tp tt tb).2.2.2.2.1 (FX3_endWaits_b1 fuel (nI i) (nI m) reg mem tz tp tt tb).2.2.2.2.2 l0 l1 g' ∧ (∀ k, k < 14 ∨ 18 ≤ k → (FX3_endWaits_b1 fuel (nI i) (nI m) reg mem tz tp tt tb).1 k = reg k) ∧ ∀ k, 102 ≤ k → k < 117 → g' k = g k
  | _, _, 0, _, _, _, _, _, _, _, _, _, h, _ => absurd h (Nat.not_lt_zero _)
  | 0, i, fuel + 1, reg, mem, tz, tp, tt, tb, g, h0, h12, _, h => by
    obtain ⟨s, s1, s2, s3, -⟩ := h.2.2.2.2.1
    have es : s = i + 0 := by
      rw [s2] at h0
      exact (nI_eq (by omega) (by omega)).mp h0
    have c : (nI 0 : Int32) ≤ 0 := by decide
    have c2 : g 117 ≤ nI i := by rw [s3, es]; exact nI_le (by omega) (by omega)
    rw [OX3_endWaits_b1, OX10_comeInTime_b1, FX10_comeInTime_b1, FX3_endWaits_b1, if_pos c]
    refine ⟨⟨fun _ => trivial, fun q => absurd c q⟩, by simp only [og117 H, g117 H, c2, if_true, if_false, true_implies, false_implies, implies_true, not_true_eq_false, not_false_eq_true, and_true, true_and, and_self, or_true, true_or], g, by simp only [g117 H, c2, if_true], h, fun _ _ => rfl, fun _ _ _ => rfl⟩
  | m + 1, i, fuel + 1, reg, mem, tz, tp, tt, tb, g, h0, h12, hf, h => by
    obtain ⟨s, s1, s2, s3, s4, s5, -⟩ := h.2.2.2.2.1
    have es : s = i + (m + 1) := by
      rw [s2] at h0
      exact (nI_eq (by omega) (by omega)).mp h0
    obtain ⟨t1, t2, t3, t4⟩ := s4 i (by omega)
    have e9 : g 96 = reg 18 := h.2.2.2.1.1
    have ci : (nI i).toNatClampNeg = i := nI_clamp (by omega)
    have vi : vp_in (nI i) 12 := vp_in_nI (by omega) (by decide)
    have c : ¬ (nI (m + 1) : Int32) ≤ 0 := nI_ge (a := 0) (by omega) (by omega)
    have c2 : ¬ nI s ≤ nI i := nI_ge (by omega) (by omega)
    have em := nI_m1 m
    have ea : (118 : Int32) + 3 * nI i = nI (118 + 3 * i) := by rw [m3 (by omega)]; exact nI_add 118 _
    have ea1 : (118 : Int32) + 3 * nI i + 1 = nI (119 + 3 * i) := by rw [ea, nI_1, show 118 + 3 * i + 1 = 119 + 3 * i by omega]
    have ea2 : (118 : Int32) + 3 * nI i + 2 = nI (120 + 3 * i) := by rw [ea, show nI (118 + 3 * i) + 2 = nI (118 + 3 * i + 2) from nI_add _ 2, show 118 + 3 * i + 2 = 120 + 3 * i by omega]
    have ga := get_e (z := 0) (n := n) (g := g) H (show 118 + 3 * i < 174 by omega) ea
    have oa := oget_e (z := 0) (m := emb b n g) H (show 118 + 3 * i < 174 by omega) ea
    have gb := get_e (z := 0) (n := n) (g := g) H (show 119 + 3 * i < 174 by omega) ea1
    have ob := oget_e (z := 0) (m := emb b n g) H (show 119 + 3 * i < 174 by omega) ea1
    have gc := get_e (z := 0) (n := n) (g := g) H (show 120 + 3 * i < 174 by omega) ea2
    have oc := oget_e (z := 0) (m := emb b n g) H (show 120 + 3 * i < 174 by omega) ea2
    by_cases a : reg 18 - tt i ≤ 0
    · have a' : ¬ 0 < reg 18 - tt i := fun q => lt_no q a
      obtain ⟨r1, r2, g', r3, r4, r5, r6⟩ := come_loop H m (i + 1) fuel reg mem tz tp tt tb g (by rw [h0, show i + (m + 1) = i + 1 + m by omega]) (by omega) (by omega) h
      refine ⟨?_, ?_, g', ?_, ?_⟩
      · rw [OX3_endWaits_b1]
        simp (decide := true) only [c, vi, ci, after0 a, nI_1, em, r1, if_true, if_false, true_implies, false_implies, implies_true, not_true_eq_false, not_false_eq_true, and_true, true_and, and_self, or_true, true_or]
      · rw [OX10_comeInTime_b1]
        simp (decide := true) only [og117 H, g117 H, s3, c2, oa, ga, og96 H, g96 H, e9, ob, gb, t2, a', nI_1, r2, if_true, if_false, true_implies, false_implies, implies_true, not_true_eq_false, not_false_eq_true, and_true, true_and, and_self, or_true, true_or]
      · rw [FX10_comeInTime_b1]
        simp (decide := true) only [g117 H, s3, c2, ga, g96 H, e9, gb, t2, a', nI_1, r3, if_true, if_false]
      · rw [FX3_endWaits_b1]
        simp (decide := true) only [c, ci, after0 a, nI_1, em, if_true, if_false]
        exact ⟨r4, r5, r6⟩
    · have a' : 0 < reg 18 - tt i := lt0_iff.mpr a
      obtain ⟨k1, k2, g1, k3, k4, k5, k6, -⟩ := p_leave (z := 0) (n := n) H h.2.2.2.2.1 s2 s1 (show i < s by omega)
      have hB1 := RB0_tm h k4 k5
      have hp3 := wS3 (pW t4)
      have hp4 := wS4 (pW t4)
      have hp5 := wS5 (pW t4)
      have x3 := (pl_cl hp3).1
      have x4 := (pl_cl hp4).1
      have x5 := (pl_cl hp5).1
      rcases s5 i (by omega) with tb0 | tb1
      · obtain ⟨g2, q1, q2, q3, q4, q5, q6, q7⟩ := p_sched (n := n) H hB1.1 hB1.2.1 t4
        have hB2 := RB0_q hB1 q4 q5 q7 q6
        obtain ⟨r1, r2, g', r3, r4, r5, r6⟩ := come_loop H m i fuel _ _ _ _ _ _ g2 (by rw [k6, es, show i + (m + 1) - 1 = i + m by omega]) (by omega) (by omega) hB2
        have n1 : ¬ (0 : Int32) = 1 := by decide
        refine ⟨?_, ?_, g', ?_, ?_⟩
        · rw [OX3_endWaits_b1]
          simp (decide := true) only [c, vi, ci, after1 a, OX3_endWait, FX3_endWait, tb0, k1, q3, em, r1, if_true, if_false, true_implies, false_implies, implies_true, not_true_eq_false, not_false_eq_true, and_true, true_and, and_self, or_true, true_or]
        · rw [OX10_comeInTime_b1]
          simp (decide := true) only [og117 H, g117 H, s3, c2, oa, ga, t1, og96 H, g96 H, e9, ob, gb, t2, a', oc, gc, t3, tb0, k2, k3, q1, q2, r2, if_true, if_false, true_implies, false_implies, implies_true, not_true_eq_false, not_false_eq_true, and_true, true_and, and_self, or_true, true_or]
        · rw [FX10_comeInTime_b1]
          simp (decide := true) only [g117 H, s3, c2, ga, t1, g96 H, e9, gb, t2, a', gc, t3, tb0, k3, q1, r3, if_true, if_false]
        · rw [FX3_endWaits_b1]
          simp (decide := true) only [c, ci, after1 a, FX3_endWait, tb0, em, if_true, if_false]
          exact ⟨r4, fun k hk => (r5 k hk).trans (q7 k hk), fun k e1 e2 => (r6 k e1 e2).trans ((q6 k (by omega)).trans (k4 k (by omega)))⟩
      · have w3 := lay_ok (n := n) (g := g1) (v := -4) H hp3
        have w4 := lay_ok (n := n) (g := upd g1 (tp i / 2 - 3).toNatClampNeg (-4)) (v := -6) H hp4
        have w5 := lay_ok (n := n) (g := upd (upd g1 (tp i / 2 - 3).toNatClampNeg (-4)) (tp i / 2 - 4).toNatClampNeg (-6)) (v := reg 18) H hp5
        have hB4 := RB0_m (x := -6) x4 (RB0_m (x := -4) x3 hB1)
        have e10 := hB4.2.2.2.1.1
        have hB5 := RB0_m (x := reg 18) x5 hB4
        obtain ⟨g2, q1, q2, q3, q4, q5, q6, q7⟩ := p_sched (n := n) H hB5.1 hB5.2.1 t4
        have hB2 := RB0_q hB5 q4 q5 q7 q6
        obtain ⟨r1, r2, g', r3, r4, r5, r6⟩ := come_loop H m i fuel _ _ _ _ _ _ g2 (by rw [k6, es, show i + (m + 1) - 1 = i + m by omega]) (by omega) (by omega) hB2
        refine ⟨?_, ?_, g', ?_, ?_⟩
        · rw [OX3_endWaits_b1]
          simp (decide := true) only [c, vi, ci, after1 a, OX3_endWait, FX3_endWait, tb1, pl_vp hp3, pl_vp hp4, pl_vp hp5, k1, q3, em, r1, if_true, if_false, true_implies, false_implies, implies_true, not_true_eq_false, not_false_eq_true, and_true, true_and, and_self, or_true, true_or]
        · rw [OX10_comeInTime_b1]
          simp (decide := true) only [og117 H, g117 H, s3, c2, oa, ga, t1, og96 H, g96 H, e9, ob, gb, t2, a', oc, gc, t3, tb1, k2, k3, olay H (Or.inl rfl), w3, w4, e10, w5, q1, q2, r2, if_true, if_false, true_implies, false_implies, implies_true, not_true_eq_false, not_false_eq_true, and_true, true_and, and_self, or_true, true_or]
        · rw [FX10_comeInTime_b1]
          simp (decide := true) only [g117 H, s3, c2, ga, t1, g96 H, e9, gb, t2, a', gc, t3, tb1, k3, w3, w4, e10, w5, q1, r3, if_true, if_false]
        · rw [FX3_endWaits_b1]
          simp (decide := true) only [c, ci, after1 a, FX3_endWait, tb1, em, if_true, if_false]
          exact ⟨r4, fun k hk => (r5 k hk).trans (q7 k hk), fun k e1 e2 => (r6 k e1 e2).trans ((q6 k (by omega)).trans ((pk_un (by omega)).trans ((pk_un (by omega)).trans ((pk_un (by omega)).trans (k4 k (by omega))))))⟩
theorem p_come {reg mem tz tp tt tb g : mF} (H : Hb f b) (h : RM reg mem tz tp tt tb l0 l1 g) : OX3_endWaits reg mem tz tp tt tb ∧ OX10_comeInTime (fb f 0) (emb b n g) ∧ ∃ g', FX10_comeInTime (fb f 0) (emb b n g) = (0, fb f 0, emb b n g') ∧ RM (FX3_endWaits reg mem tz tp tt tb).2.1 (FX3_endWaits reg mem tz tp tt tb).2.2.1 (FX3_endWaits reg mem tz tp tt tb).2.2.2.1 (FX3_endWaits reg mem tz tp tt tb).2.2.2.2.1 (FX3_endWaits reg mem tz tp tt tb).2.2.2.2.2.1 (FX3_endWaits reg mem tz tp tt tb).2.2.2.2.2.2 l0 l1 g' := by
  obtain ⟨hr, hB⟩ := h
  obtain ⟨s, s1, s2, -⟩ := id hB.2.2.2.2.1
  obtain ⟨r1, r2, g', r3, r4, r5, r6⟩ := come_loop (n := n) H s 0 10000 reg mem tz tp tt tb g (by rw [s2, Nat.zero_add]) (by omega) (by omega) hB
  rw [nI_0, ← s2] at r1 r4 r5
  rw [nI_0] at r2 r3
  refine ⟨r1, r2, g', by simp only [FX10_comeInTime, r3], ?_, r4⟩
  rcases hr with ⟨a1, a2⟩ | hOn
  · exact Or.inl ⟨(r5 4 (by omega)).trans a1, (r6 102 (by omega) (by omega)).trans a2⟩
  · exact Or.inr (ROn_c hOn (fun k hk => r5 k (by omega)) (fun k a c => r6 k (by omega) (by omega)))
end CIT
