/-! PURE: a link's buffer is filled, is emptied (GENERATED, wip/gen/p/37.py) -/
theorem RLk_f0 {l g : mF} {x : Int32} (h : RLk l 154 g) : RLk (upd (upd (upd l 8 x) 7 1) 9 (-1)) 154 (upd (upd (upd g 162 x) 161 1) 163 (-1)) := by
  obtain ⟨h1, h2, h3, h4⟩ := h
  refine ⟨?_, ?_, ?_, ?_⟩
  · simp (decide := true) only [upd_at, if_true, if_false, Nat.reduceAdd]
    exact h1
  · simp (decide := true) only [upd_at, if_true, if_false, Nat.reduceAdd]
    exact h2
  · refine ⟨rfl, Or.inr rfl, fun _ => rfl⟩
  · refine ⟨rfl, fun q => absurd rfl q⟩
section FIL
variable {F n g reg mem tz tp tt tb l0 l1 : mF} {b : Nat}
theorem p_fill0 (H : Hb F b) (h : RM reg mem tz tp tt tb l0 l1 g) {x : Int32} : (l0 9 = -1 → OX3_fillBuffer x reg mem tz tp tt tb l0 ∧ FX3_fillBuffer x reg mem tz tp tt tb l0 = (0, reg, mem, tz, tp, tt, tb, (upd (upd (upd l0 8 x) 7 1) 9 (-1))) ∧ RM reg mem tz tp tt tb (upd (upd (upd l0 8 x) 7 1) 9 (-1)) l1 (upd (upd (upd g 162 x) 161 1) 163 (-1))) ∧ (¬ l0 9 = -1 → OX3_fillBuffer x reg mem tz tp tt tb l0 ∧ OX10_at (l0 9 / 2 - 3) (fb F 0) (emb b n (upd (upd (upd g 162 x) 161 1) 163 (-1))) ∧ FX10_at (l0 9 / 2 - 3) (fb F 0) (emb b n (upd (upd (upd g 162 x) 161 1) 163 (-1))) = (mem (l0 9 / 2 - 3).toNatClampNeg, fb F 0) ∧ ∃ r g1, FX3_fillBuffer x reg mem tz tp tt tb l0 = r ∧ RM r.2.1 r.2.2.1 r.2.2.2.1 r.2.2.2.2.1 r.2.2.2.2.2.1 r.2.2.2.2.2.2.1 (upd (upd (upd l0 8 x) 7 1) 9 (-1)) l1 g1 ∧ r.2.2.2.2.2.2.2 = (upd (upd (upd l0 8 x) 7 1) 9 (-1)) ∧ (mem (l0 9 / 2 - 3).toNatClampNeg = -2 → OX10_lay (l0 9 / 2 - 3) (-4) (fb F 0) (emb b n (upd (upd (upd g 162 x) 161 1) 163 (-1))) ∧ FX10_lay (l0 9 / 2 - 3) (-4) (fb F 0) (emb b n (upd (upd (upd g 162 x) 161 1) 163 (-1))) = (0, fb F 0, emb b n g1)) ∧ (mem (l0 9 / 2 - 3).toNatClampNeg = -3 → OX10_lay (l0 9 / 2 - 3) (-4) (fb F 0) (emb b n (upd (upd (upd g 162 x) 161 1) 163 (-1))) ∧ ∃ g2, FX10_lay (l0 9 / 2 - 3) (-4) (fb F 0) (emb b n (upd (upd (upd g 162 x) 161 1) 163 (-1))) = (0, fb F 0, emb b n g2) ∧ OX10_wakes (l0 9) (fb F 0) (emb b n g2) ∧ FX10_wakes (l0 9) (fb F 0) (emb b n g2) = (0, fb F 0, emb b n g1)) ∧ (¬ mem (l0 9 / 2 - 3).toNatClampNeg = -2 → ¬ mem (l0 9 / 2 - 3).toNatClampNeg = -3 → g1 = upd (upd (upd g 162 x) 161 1) 163 (-1))) := by
  obtain ⟨hr, hB⟩ := h
  obtain ⟨G, hG⟩ : ∃ G : mF, G = upd (upd (upd g 162 x) 161 1) 163 (-1) := ⟨_, rfl⟩
  rw [← hG]
  have gk : ∀ k, k < 154 ∨ 164 ≤ k → G k = g k := fun k hk => by rw [hG, pk_un (by omega), pk_un (by omega), pk_un (by omega)]
  have hB1 : RB0 reg mem tz tp tt tb (upd (upd (upd l0 8 x) 7 1) 9 (-1)) l1 G := RB0_l0 hB gk (by rw [hG]; exact RLk_f0 hB.2.2.2.2.2.1)
  have hr1 : ∀ {reg' g' : mF}, (∀ k, k < 14 ∨ 18 ≤ k → reg' k = reg k) → (∀ k, 102 ≤ k → k < 117 → g' k = g k) → RRun reg' g' := fun e1 e2 => by
    rcases hr with ⟨a1, a2⟩ | hOn
    · exact Or.inl ⟨(e1 4 (by omega)).trans a1, (e2 102 (by omega) (by omega)).trans a2⟩
    · exact Or.inr (ROn_c hOn (fun k hk => e1 k (by omega)) (fun k a c => e2 k (by omega) (by omega)))
  have hpP := hB.2.2.2.2.2.1.2.2.2.2
  refine ⟨fun c => ⟨by simp (decide := true) only [OX3_fillBuffer, c, if_true, if_false, true_implies, false_implies, implies_true, not_true_eq_false, not_false_eq_true, and_true, true_and, and_self, or_true, true_or], by simp (decide := true) only [FX3_fillBuffer, c, if_true, if_false], hr1 (fun _ _ => rfl) (fun k a c => gk k (by omega)), hB1⟩, fun c => ?_⟩
  have hp := hpP c
  have h3 := wS3 (pW hp)
  have x3 := (pl_cl h3).1
  have et := at_ok (n := n) (g := G) H h3
  rw [hB1.1 _ x3] at et
  have el := lay_ok (n := n) (g := G) (v := -4) H h3
  obtain ⟨al3, al2, al0⟩ := p_alert (tz := tz) (tp := tp) (tt := tt) (tb := tb) (reg := reg) hB1.1 hp
  by_cases q3 : mem (l0 9 / 2 - 3).toNatClampNeg = -3
  · have al := al3 q3
    have hB4 := RB0_m (x := -4) x3 hB1
    obtain ⟨k1, k2, g2, k3, k4, k5, k6, k7, k8⟩ := p_wake (n := n) H hB4.1 hB4.2.1 hB4.2.2.2.2.1 hp
    have hB5 := RB0_wk hB4 k4 k5 k6 k7 k8
    refine ⟨by simp (decide := true) only [OX3_fillBuffer, c, al.1, k1, if_true, if_false, true_implies, false_implies, implies_true, not_true_eq_false, not_false_eq_true, and_true, true_and, and_self, or_true, true_or], oat H (Or.inl rfl) ▸ trivial, et, _, g2, rfl, ?_, ?_, fun q => absurd (q3.symm.trans q) (by decide), fun _ => ⟨olay H (Or.inl rfl) ▸ trivial, _, el, k2, k3⟩, fun _ q => absurd q3 q⟩
    · simp (decide := true) only [FX3_fillBuffer, c, al.2, if_true, if_false]
      exact ⟨hr1 k8 (fun k a c => (k7 k (by omega)).trans ((pk_un (by omega)).trans (gk k (by omega)))), hB5⟩
    · simp (decide := true) only [FX3_fillBuffer, c, al.2, if_true, if_false]
  · by_cases q2 : mem (l0 9 / 2 - 3).toNatClampNeg = -2
    · have al := al2 q2
      have hB4 := RB0_m (x := -4) x3 hB1
      refine ⟨by simp (decide := true) only [OX3_fillBuffer, c, al.1, if_true, if_false, true_implies, false_implies, implies_true, not_true_eq_false, not_false_eq_true, and_true, true_and, and_self, or_true, true_or], oat H (Or.inl rfl) ▸ trivial, et, _, upd G (l0 9 / 2 - 3).toNatClampNeg (-4), rfl, ?_, ?_, fun _ => ⟨olay H (Or.inl rfl) ▸ trivial, el⟩, fun q => absurd q q3, fun q => absurd q2 q⟩
      · simp (decide := true) only [FX3_fillBuffer, c, al.2, if_true, if_false]
        exact ⟨hr1 (fun _ _ => rfl) (fun k a c => (pk_un (by omega)).trans (gk k (by omega))), hB4⟩
      · simp (decide := true) only [FX3_fillBuffer, c, al.2, if_true, if_false]
    · have al := al0 q3 q2
      refine ⟨by simp (decide := true) only [OX3_fillBuffer, c, al.1, if_true, if_false, true_implies, false_implies, implies_true, not_true_eq_false, not_false_eq_true, and_true, true_and, and_self, or_true, true_or], oat H (Or.inl rfl) ▸ trivial, et, _, G, rfl, ?_, ?_, fun q => absurd q q2, fun q => absurd q q3, fun _ _ => rfl⟩
      · simp (decide := true) only [FX3_fillBuffer, c, al.2, if_true, if_false]
        exact ⟨hr1 (fun _ _ => rfl) (fun k a c => gk k (by omega)), hB1⟩
      · simp (decide := true) only [FX3_fillBuffer, c, al.2, if_true, if_false]
end FIL
theorem RLk_f1 {l g : mF} {x : Int32} (h : RLk l 164 g) : RLk (upd (upd (upd l 8 x) 7 1) 9 (-1)) 164 (upd (upd (upd g 172 x) 171 1) 173 (-1)) := by
  obtain ⟨h1, h2, h3, h4⟩ := h
  refine ⟨?_, ?_, ?_, ?_⟩
  · simp (decide := true) only [upd_at, if_true, if_false, Nat.reduceAdd]
    exact h1
  · simp (decide := true) only [upd_at, if_true, if_false, Nat.reduceAdd]
    exact h2
  · refine ⟨rfl, Or.inr rfl, fun _ => rfl⟩
  · refine ⟨rfl, fun q => absurd rfl q⟩
section FIL
variable {F n g reg mem tz tp tt tb l0 l1 : mF} {b : Nat}
theorem p_fill1 (H : Hb F b) (h : RM reg mem tz tp tt tb l0 l1 g) {x : Int32} : (l1 9 = -1 → OX3_fillBuffer x reg mem tz tp tt tb l1 ∧ FX3_fillBuffer x reg mem tz tp tt tb l1 = (0, reg, mem, tz, tp, tt, tb, (upd (upd (upd l1 8 x) 7 1) 9 (-1))) ∧ RM reg mem tz tp tt tb l0 (upd (upd (upd l1 8 x) 7 1) 9 (-1)) (upd (upd (upd g 172 x) 171 1) 173 (-1))) ∧ (¬ l1 9 = -1 → OX3_fillBuffer x reg mem tz tp tt tb l1 ∧ OX10_at (l1 9 / 2 - 3) (fb F 0) (emb b n (upd (upd (upd g 172 x) 171 1) 173 (-1))) ∧ FX10_at (l1 9 / 2 - 3) (fb F 0) (emb b n (upd (upd (upd g 172 x) 171 1) 173 (-1))) = (mem (l1 9 / 2 - 3).toNatClampNeg, fb F 0) ∧ ∃ r g1, FX3_fillBuffer x reg mem tz tp tt tb l1 = r ∧ RM r.2.1 r.2.2.1 r.2.2.2.1 r.2.2.2.2.1 r.2.2.2.2.2.1 r.2.2.2.2.2.2.1 l0 (upd (upd (upd l1 8 x) 7 1) 9 (-1)) g1 ∧ r.2.2.2.2.2.2.2 = (upd (upd (upd l1 8 x) 7 1) 9 (-1)) ∧ (mem (l1 9 / 2 - 3).toNatClampNeg = -2 → OX10_lay (l1 9 / 2 - 3) (-4) (fb F 0) (emb b n (upd (upd (upd g 172 x) 171 1) 173 (-1))) ∧ FX10_lay (l1 9 / 2 - 3) (-4) (fb F 0) (emb b n (upd (upd (upd g 172 x) 171 1) 173 (-1))) = (0, fb F 0, emb b n g1)) ∧ (mem (l1 9 / 2 - 3).toNatClampNeg = -3 → OX10_lay (l1 9 / 2 - 3) (-4) (fb F 0) (emb b n (upd (upd (upd g 172 x) 171 1) 173 (-1))) ∧ ∃ g2, FX10_lay (l1 9 / 2 - 3) (-4) (fb F 0) (emb b n (upd (upd (upd g 172 x) 171 1) 173 (-1))) = (0, fb F 0, emb b n g2) ∧ OX10_wakes (l1 9) (fb F 0) (emb b n g2) ∧ FX10_wakes (l1 9) (fb F 0) (emb b n g2) = (0, fb F 0, emb b n g1)) ∧ (¬ mem (l1 9 / 2 - 3).toNatClampNeg = -2 → ¬ mem (l1 9 / 2 - 3).toNatClampNeg = -3 → g1 = upd (upd (upd g 172 x) 171 1) 173 (-1))) := by
  obtain ⟨hr, hB⟩ := h
  obtain ⟨G, hG⟩ : ∃ G : mF, G = upd (upd (upd g 172 x) 171 1) 173 (-1) := ⟨_, rfl⟩
  rw [← hG]
  have gk : ∀ k, k < 164 ∨ 174 ≤ k → G k = g k := fun k hk => by rw [hG, pk_un (by omega), pk_un (by omega), pk_un (by omega)]
  have hB1 : RB0 reg mem tz tp tt tb l0 (upd (upd (upd l1 8 x) 7 1) 9 (-1)) G := RB0_l1 hB gk (by rw [hG]; exact RLk_f1 hB.2.2.2.2.2.2)
  have hr1 : ∀ {reg' g' : mF}, (∀ k, k < 14 ∨ 18 ≤ k → reg' k = reg k) → (∀ k, 102 ≤ k → k < 117 → g' k = g k) → RRun reg' g' := fun e1 e2 => by
    rcases hr with ⟨a1, a2⟩ | hOn
    · exact Or.inl ⟨(e1 4 (by omega)).trans a1, (e2 102 (by omega) (by omega)).trans a2⟩
    · exact Or.inr (ROn_c hOn (fun k hk => e1 k (by omega)) (fun k a c => e2 k (by omega) (by omega)))
  have hpP := hB.2.2.2.2.2.2.2.2.2.2
  refine ⟨fun c => ⟨by simp (decide := true) only [OX3_fillBuffer, c, if_true, if_false, true_implies, false_implies, implies_true, not_true_eq_false, not_false_eq_true, and_true, true_and, and_self, or_true, true_or], by simp (decide := true) only [FX3_fillBuffer, c, if_true, if_false], hr1 (fun _ _ => rfl) (fun k a c => gk k (by omega)), hB1⟩, fun c => ?_⟩
  have hp := hpP c
  have h3 := wS3 (pW hp)
  have x3 := (pl_cl h3).1
  have et := at_ok (n := n) (g := G) H h3
  rw [hB1.1 _ x3] at et
  have el := lay_ok (n := n) (g := G) (v := -4) H h3
  obtain ⟨al3, al2, al0⟩ := p_alert (tz := tz) (tp := tp) (tt := tt) (tb := tb) (reg := reg) hB1.1 hp
  by_cases q3 : mem (l1 9 / 2 - 3).toNatClampNeg = -3
  · have al := al3 q3
    have hB4 := RB0_m (x := -4) x3 hB1
    obtain ⟨k1, k2, g2, k3, k4, k5, k6, k7, k8⟩ := p_wake (n := n) H hB4.1 hB4.2.1 hB4.2.2.2.2.1 hp
    have hB5 := RB0_wk hB4 k4 k5 k6 k7 k8
    refine ⟨by simp (decide := true) only [OX3_fillBuffer, c, al.1, k1, if_true, if_false, true_implies, false_implies, implies_true, not_true_eq_false, not_false_eq_true, and_true, true_and, and_self, or_true, true_or], oat H (Or.inl rfl) ▸ trivial, et, _, g2, rfl, ?_, ?_, fun q => absurd (q3.symm.trans q) (by decide), fun _ => ⟨olay H (Or.inl rfl) ▸ trivial, _, el, k2, k3⟩, fun _ q => absurd q3 q⟩
    · simp (decide := true) only [FX3_fillBuffer, c, al.2, if_true, if_false]
      exact ⟨hr1 k8 (fun k a c => (k7 k (by omega)).trans ((pk_un (by omega)).trans (gk k (by omega)))), hB5⟩
    · simp (decide := true) only [FX3_fillBuffer, c, al.2, if_true, if_false]
  · by_cases q2 : mem (l1 9 / 2 - 3).toNatClampNeg = -2
    · have al := al2 q2
      have hB4 := RB0_m (x := -4) x3 hB1
      refine ⟨by simp (decide := true) only [OX3_fillBuffer, c, al.1, if_true, if_false, true_implies, false_implies, implies_true, not_true_eq_false, not_false_eq_true, and_true, true_and, and_self, or_true, true_or], oat H (Or.inl rfl) ▸ trivial, et, _, upd G (l1 9 / 2 - 3).toNatClampNeg (-4), rfl, ?_, ?_, fun _ => ⟨olay H (Or.inl rfl) ▸ trivial, el⟩, fun q => absurd q q3, fun q => absurd q2 q⟩
      · simp (decide := true) only [FX3_fillBuffer, c, al.2, if_true, if_false]
        exact ⟨hr1 (fun _ _ => rfl) (fun k a c => (pk_un (by omega)).trans (gk k (by omega))), hB4⟩
      · simp (decide := true) only [FX3_fillBuffer, c, al.2, if_true, if_false]
    · have al := al0 q3 q2
      refine ⟨by simp (decide := true) only [OX3_fillBuffer, c, al.1, if_true, if_false, true_implies, false_implies, implies_true, not_true_eq_false, not_false_eq_true, and_true, true_and, and_self, or_true, true_or], oat H (Or.inl rfl) ▸ trivial, et, _, G, rfl, ?_, ?_, fun q => absurd q q2, fun q => absurd q q3, fun _ _ => rfl⟩
      · simp (decide := true) only [FX3_fillBuffer, c, al.2, if_true, if_false]
        exact ⟨hr1 (fun _ _ => rfl) (fun k a c => gk k (by omega)), hB1⟩
      · simp (decide := true) only [FX3_fillBuffer, c, al.2, if_true, if_false]
end FIL
