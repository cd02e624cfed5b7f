/-! PURE: a buffer is emptied; a sending ends (GENERATED, wip/gen/p/38.py) -/
section EMP
variable {F n g reg mem tz tp tt tb l0 l1 : mF} {b : Nat}
theorem p_empty0 (H : Hb F b) (h : RM reg mem tz tp tt tb l0 l1 g) (h7 : l0 7 = 1) (h4 : ¬ l0 4 = -1) : ∃ a : Nat, a < 96 ∧ l0 5 = nI a ∧ isP (l0 4) ∧ (l0 6 - 1 = 0 → OX3_emptyBuffer reg mem l0 ∧ OX10_schedule (l0 4) (fb F 0) (emb b n (upd (upd (upd (upd (upd (upd g a (l0 8)) 159 (l0 5 + 1)) 160 (l0 6 - 1)) 161 0) 162 0) 158 (-1))) ∧ ∃ r g1, FX3_emptyBuffer reg mem l0 = r ∧ FX10_schedule (l0 4) (fb F 0) (emb b n (upd (upd (upd (upd (upd (upd g a (l0 8)) 159 (l0 5 + 1)) 160 (l0 6 - 1)) 161 0) 162 0) 158 (-1))) = (0, fb F 0, emb b n g1) ∧ RM r.2.1 r.2.2.1 tz tp tt tb (upd (upd (upd (upd (upd (upd l0 7 0) 5 (l0 5 + 1)) 6 (l0 6 - 1)) 4 (-1)) 5 0) 6 0) l1 g1 ∧ r.2.2.2 = (upd (upd (upd (upd (upd (upd l0 7 0) 5 (l0 5 + 1)) 6 (l0 6 - 1)) 4 (-1)) 5 0) 6 0) ∧ ∀ k, 102 ≤ k → g1 k = upd (upd (upd (upd (upd (upd g a (l0 8)) 159 (l0 5 + 1)) 160 (l0 6 - 1)) 161 0) 162 0) 158 (-1) k) ∧ (¬ l0 6 - 1 = 0 → OX3_emptyBuffer reg mem l0 ∧ FX3_emptyBuffer reg mem l0 = (0, reg, upd mem a (l0 8), (upd (upd (upd l0 7 0) 5 (l0 5 + 1)) 6 (l0 6 - 1))) ∧ RM reg (upd mem a (l0 8)) tz tp tt tb (upd (upd (upd l0 7 0) 5 (l0 5 + 1)) 6 (l0 6 - 1)) l1 (upd (upd (upd (upd (upd g a (l0 8)) 159 (l0 5 + 1)) 160 (l0 6 - 1)) 161 0) 162 0)) := by
  obtain ⟨hr, hB⟩ := h
  obtain ⟨b1, ⟨b2, b3, b4⟩, ⟨b5, b6, b7⟩, b8, b9⟩ := hB.2.2.2.2.2.1
  obtain ⟨c1, c2, c3, a, c, c4, c5, c6, c7, c8⟩ := b3 h4
  have ha : a < 96 := by omega
  have ea : (l0 5).toNatClampNeg = a := by rw [c4]; exact nI_clamp (by omega)
  have va : vp_in (l0 5) 96 := by rw [c4]; exact vp_in_nI ha (by decide)
  have e5 : l0 5 + 1 = nI (a + 1) := by rw [c4]; exact nI_1 a
  have e6 : l0 6 - 1 = nI (c - 1) := by rw [c5]; exact nI_sub (a := c) (c := 1) c6
  have hm := RB0_m (x := l0 8) ha hB
  have o : ∀ k v, upd g a v (154 + k) = g (154 + k) := fun k v => pk_un (by omega)
  have o0 : ∀ v, upd g a v 154 = g 154 := fun v => o 0 v
  have o1 : ∀ v, upd g a v 155 = g 155 := fun v => o 1 v
  have o2 : ∀ v, upd g a v 156 = g 156 := fun v => o 2 v
  have o3 : ∀ v, upd g a v 157 = g 157 := fun v => o 3 v
  have o4 : ∀ v, upd g a v 158 = g 158 := fun v => o 4 v
  have o9 : ∀ v, upd g a v 163 = g 163 := fun v => o 9 v
  obtain ⟨G, hG⟩ : ∃ G : mF, G = (upd (upd (upd (upd (upd g a (l0 8)) 159 (l0 5 + 1)) 160 (l0 6 - 1)) 161 0) 162 0) := ⟨_, rfl⟩
  have gk : ∀ k, k < 154 ∨ 164 ≤ k → G k = upd g a (l0 8) k := fun k hk => by rw [hG, pk_un (by omega), pk_un (by omega), pk_un (by omega), pk_un (by omega)]
  have k0 : G 154 = g 154 := by rw [hG, pk_un (by decide), pk_un (by decide), pk_un (by decide), pk_un (by decide), o0]
  have k1 : G 155 = g 155 := by rw [hG, pk_un (by decide), pk_un (by decide), pk_un (by decide), pk_un (by decide), o1]
  have k2 : G 156 = g 156 := by rw [hG, pk_un (by decide), pk_un (by decide), pk_un (by decide), pk_un (by decide), o2]
  have k3 : G 157 = g 157 := by rw [hG, pk_un (by decide), pk_un (by decide), pk_un (by decide), pk_un (by decide), o3]
  have k4 : G 158 = g 158 := by rw [hG, pk_un (by decide), pk_un (by decide), pk_un (by decide), pk_un (by decide), o4]
  have k5 : G 159 = l0 5 + 1 := by rw [hG, pk_un (by decide), pk_un (by decide), pk_un (by decide), pk_us]
  have k6 : G 160 = l0 6 - 1 := by rw [hG, pk_un (by decide), pk_un (by decide), pk_us]
  have k7 : G 161 = 0 := by rw [hG, pk_un (by decide), pk_us]
  have k9 : G 163 = g 163 := by rw [hG, pk_un (by decide), pk_un (by decide), pk_un (by decide), pk_un (by decide), o9]
  have n01 : ¬ (0 : Int32) = 1 := by decide
  refine ⟨a, ha, c4, c1, ?_⟩
  rw [← hG]
  refine ⟨fun z => ?_, fun z => ?_⟩
  · have hl : RLk (upd (upd (upd (upd (upd (upd l0 7 0) 5 (l0 5 + 1)) 6 (l0 6 - 1)) 4 (-1)) 5 0) 6 0) 154 (upd G 158 (-1)) := by
      refine ⟨?_, ⟨rfl, fun q => absurd rfl q, fun _ => rfl⟩, ⟨?_, Or.inl rfl, fun q => absurd q n01⟩, ?_⟩
      · rw [pk_un (show (154 : Nat) ≠ 158 by decide), pk_un (show (154 + 1 : Nat) ≠ 158 by decide), pk_un (show (154 + 2 : Nat) ≠ 158 by decide), pk_un (show (154 + 3 : Nat) ≠ 158 by decide), k0, k1, k2, k3]
        exact b1
      · rw [pk_un (show (154 + 7 : Nat) ≠ 158 by decide)]
        exact k7
      · rw [pk_un (show (154 + 9 : Nat) ≠ 158 by decide), k9]
        exact ⟨b8, b9⟩
    have hB1 : RB0 reg (upd mem a (l0 8)) tz tp tt tb (upd (upd (upd (upd (upd (upd l0 7 0) 5 (l0 5 + 1)) 6 (l0 6 - 1)) 4 (-1)) 5 0) 6 0) l1 (upd G 158 (-1)) := RB0_l0 hm (fun k hk => (pk_un (by omega)).trans (gk k hk)) hl
    obtain ⟨g1, q1, q2, q3, q4, q5, q6, q7⟩ := p_sched (n := n) H hB1.1 hB1.2.1 c1
    have hB2 := RB0_q hB1 q4 q5 q7 q6
    refine ⟨by simp (decide := true) only [OX3_emptyBuffer, va, ea, z, q3, if_true, if_false, true_implies, false_implies, implies_true, not_true_eq_false, not_false_eq_true, and_true, true_and, and_self, or_true, true_or], q2, _, g1, rfl, q1, ?_, ?_, fun k hk => q6 k (by omega)⟩
    · simp (decide := true) only [FX3_emptyBuffer, ea, z, if_true, if_false]
      refine ⟨?_, hB2⟩
      rcases hr with ⟨a1, a2⟩ | hOn
      · exact Or.inl ⟨(q7 4 (by omega)).trans a1, (q6 102 (by omega)).trans ((pk_un (by decide)).trans ((gk 102 (by omega)).trans ((pk_un (by omega)).trans a2)))⟩
      · exact Or.inr (ROn_c hOn (fun k hk => q7 k (by omega)) (fun k e1 e2 => (q6 k (by omega)).trans ((pk_un (by omega)).trans ((gk k (by omega)).trans (pk_un (by omega))))))
    · simp (decide := true) only [FX3_emptyBuffer, ea, z, FX2_endReceiving, FX2_beginReceiving, if_true, if_false]
  · have hl : RLk (upd (upd (upd l0 7 0) 5 (l0 5 + 1)) 6 (l0 6 - 1)) 154 G := by
      refine ⟨?_, ⟨?_, fun q => ⟨c1, k5, k6, a + 1, c - 1, e5, e6, ?_, by omega, by omega⟩, fun q => absurd q h4⟩, ⟨k7, Or.inl rfl, fun q => absurd q n01⟩, ?_⟩
      · rw [k0, k1, k2, k3]
        exact b1
      · rw [k4]
        exact b2
      · rcases Nat.lt_or_ge 1 c with q' | q'
        · omega
        · exfalso
          apply z
          rw [e6, show c - 1 = 0 by omega]
          decide
      · rw [k9]
        exact ⟨b8, b9⟩
    have hB1 : RB0 reg (upd mem a (l0 8)) tz tp tt tb (upd (upd (upd l0 7 0) 5 (l0 5 + 1)) 6 (l0 6 - 1)) l1 G := RB0_l0 hm gk hl
    refine ⟨by simp (decide := true) only [OX3_emptyBuffer, va, ea, z, if_true, if_false, true_implies, false_implies, implies_true, not_true_eq_false, not_false_eq_true, and_true, true_and, and_self, or_true, true_or], by simp (decide := true) only [FX3_emptyBuffer, ea, z, if_true, if_false], ?_, hB1⟩
    rcases hr with ⟨a1, a2⟩ | hOn
    · exact Or.inl ⟨a1, (gk 102 (by omega)).trans ((pk_un (by omega)).trans a2)⟩
    · exact Or.inr (ROn_c hOn (fun _ _ => rfl) (fun k e1 e2 => (gk k (by omega)).trans (pk_un (by omega))))
end EMP
section EMP
variable {F n g reg mem tz tp tt tb l0 l1 : mF} {b : Nat}
theorem p_empty1 (H : Hb F b) (h : RM reg mem tz tp tt tb l0 l1 g) (h7 : l1 7 = 1) (h4 : ¬ l1 4 = -1) : ∃ a : Nat, a < 96 ∧ l1 5 = nI a ∧ isP (l1 4) ∧ (l1 6 - 1 = 0 → OX3_emptyBuffer reg mem l1 ∧ OX10_schedule (l1 4) (fb F 0) (emb b n (upd (upd (upd (upd (upd (upd g a (l1 8)) 169 (l1 5 + 1)) 170 (l1 6 - 1)) 171 0) 172 0) 168 (-1))) ∧ ∃ r g1, FX3_emptyBuffer reg mem l1 = r ∧ FX10_schedule (l1 4) (fb F 0) (emb b n (upd (upd (upd (upd (upd (upd g a (l1 8)) 169 (l1 5 + 1)) 170 (l1 6 - 1)) 171 0) 172 0) 168 (-1))) = (0, fb F 0, emb b n g1) ∧ RM r.2.1 r.2.2.1 tz tp tt tb l0 (upd (upd (upd (upd (upd (upd l1 7 0) 5 (l1 5 + 1)) 6 (l1 6 - 1)) 4 (-1)) 5 0) 6 0) g1 ∧ r.2.2.2 = (upd (upd (upd (upd (upd (upd l1 7 0) 5 (l1 5 + 1)) 6 (l1 6 - 1)) 4 (-1)) 5 0) 6 0) ∧ ∀ k, 102 ≤ k → g1 k = upd (upd (upd (upd (upd (upd g a (l1 8)) 169 (l1 5 + 1)) 170 (l1 6 - 1)) 171 0) 172 0) 168 (-1) k) ∧ (¬ l1 6 - 1 = 0 → OX3_emptyBuffer reg mem l1 ∧ FX3_emptyBuffer reg mem l1 = (0, reg, upd mem a (l1 8), (upd (upd (upd l1 7 0) 5 (l1 5 + 1)) 6 (l1 6 - 1))) ∧ RM reg (upd mem a (l1 8)) tz tp tt tb l0 (upd (upd (upd l1 7 0) 5 (l1 5 + 1)) 6 (l1 6 - 1)) (upd (upd (upd (upd (upd g a (l1 8)) 169 (l1 5 + 1)) 170 (l1 6 - 1)) 171 0) 172 0)) := by
  obtain ⟨hr, hB⟩ := h
  obtain ⟨b1, ⟨b2, b3, b4⟩, ⟨b5, b6, b7⟩, b8, b9⟩ := hB.2.2.2.2.2.2
  obtain ⟨c1, c2, c3, a, c, c4, c5, c6, c7, c8⟩ := b3 h4
  have ha : a < 96 := by omega
  have ea : (l1 5).toNatClampNeg = a := by rw [c4]; exact nI_clamp (by omega)
  have va : vp_in (l1 5) 96 := by rw [c4]; exact vp_in_nI ha (by decide)
  have e5 : l1 5 + 1 = nI (a + 1) := by rw [c4]; exact nI_1 a
  have e6 : l1 6 - 1 = nI (c - 1) := by rw [c5]; exact nI_sub (a := c) (c := 1) c6
  have hm := RB0_m (x := l1 8) ha hB
  have o : ∀ k v, upd g a v (164 + k) = g (164 + k) := fun k v => pk_un (by omega)
  have o0 : ∀ v, upd g a v 164 = g 164 := fun v => o 0 v
  have o1 : ∀ v, upd g a v 165 = g 165 := fun v => o 1 v
  have o2 : ∀ v, upd g a v 166 = g 166 := fun v => o 2 v
  have o3 : ∀ v, upd g a v 167 = g 167 := fun v => o 3 v
  have o4 : ∀ v, upd g a v 168 = g 168 := fun v => o 4 v
  have o9 : ∀ v, upd g a v 173 = g 173 := fun v => o 9 v
  obtain ⟨G, hG⟩ : ∃ G : mF, G = (upd (upd (upd (upd (upd g a (l1 8)) 169 (l1 5 + 1)) 170 (l1 6 - 1)) 171 0) 172 0) := ⟨_, rfl⟩
  have gk : ∀ k, k < 164 ∨ 174 ≤ k → G k = upd g a (l1 8) k := fun k hk => by rw [hG, pk_un (by omega), pk_un (by omega), pk_un (by omega), pk_un (by omega)]
  have k0 : G 164 = g 164 := by rw [hG, pk_un (by decide), pk_un (by decide), pk_un (by decide), pk_un (by decide), o0]
  have k1 : G 165 = g 165 := by rw [hG, pk_un (by decide), pk_un (by decide), pk_un (by decide), pk_un (by decide), o1]
  have k2 : G 166 = g 166 := by rw [hG, pk_un (by decide), pk_un (by decide), pk_un (by decide), pk_un (by decide), o2]
  have k3 : G 167 = g 167 := by rw [hG, pk_un (by decide), pk_un (by decide), pk_un (by decide), pk_un (by decide), o3]
  have k4 : G 168 = g 168 := by rw [hG, pk_un (by decide), pk_un (by decide), pk_un (by decide), pk_un (by decide), o4]
  have k5 : G 169 = l1 5 + 1 := by rw [hG, pk_un (by decide), pk_un (by decide), pk_un (by decide), pk_us]
  have k6 : G 170 = l1 6 - 1 := by rw [hG, pk_un (by decide), pk_un (by decide), pk_us]
  have k7 : G 171 = 0 := by rw [hG, pk_un (by decide), pk_us]
  have k9 : G 173 = g 173 := by rw [hG, pk_un (by decide), pk_un (by decide), pk_un (by decide), pk_un (by decide), o9]
  have n01 : ¬ (0 : Int32) = 1 := by decide
  refine ⟨a, ha, c4, c1, ?_⟩
  rw [← hG]
  refine ⟨fun z => ?_, fun z => ?_⟩
  · have hl : RLk (upd (upd (upd (upd (upd (upd l1 7 0) 5 (l1 5 + 1)) 6 (l1 6 - 1)) 4 (-1)) 5 0) 6 0) 164 (upd G 168 (-1)) := by
      refine ⟨?_, ⟨rfl, fun q => absurd rfl q, fun _ => rfl⟩, ⟨?_, Or.inl rfl, fun q => absurd q n01⟩, ?_⟩
      · rw [pk_un (show (164 : Nat) ≠ 168 by decide), pk_un (show (164 + 1 : Nat) ≠ 168 by decide), pk_un (show (164 + 2 : Nat) ≠ 168 by decide), pk_un (show (164 + 3 : Nat) ≠ 168 by decide), k0, k1, k2, k3]
        exact b1
      · rw [pk_un (show (164 + 7 : Nat) ≠ 168 by decide)]
        exact k7
      · rw [pk_un (show (164 + 9 : Nat) ≠ 168 by decide), k9]
        exact ⟨b8, b9⟩
    have hB1 : RB0 reg (upd mem a (l1 8)) tz tp tt tb l0 (upd (upd (upd (upd (upd (upd l1 7 0) 5 (l1 5 + 1)) 6 (l1 6 - 1)) 4 (-1)) 5 0) 6 0) (upd G 168 (-1)) := RB0_l1 hm (fun k hk => (pk_un (by omega)).trans (gk k hk)) hl
    obtain ⟨g1, q1, q2, q3, q4, q5, q6, q7⟩ := p_sched (n := n) H hB1.1 hB1.2.1 c1
    have hB2 := RB0_q hB1 q4 q5 q7 q6
    refine ⟨by simp (decide := true) only [OX3_emptyBuffer, va, ea, z, q3, if_true, if_false, true_implies, false_implies, implies_true, not_true_eq_false, not_false_eq_true, and_true, true_and, and_self, or_true, true_or], q2, _, g1, rfl, q1, ?_, ?_, fun k hk => q6 k (by omega)⟩
    · simp (decide := true) only [FX3_emptyBuffer, ea, z, if_true, if_false]
      refine ⟨?_, hB2⟩
      rcases hr with ⟨a1, a2⟩ | hOn
      · exact Or.inl ⟨(q7 4 (by omega)).trans a1, (q6 102 (by omega)).trans ((pk_un (by decide)).trans ((gk 102 (by omega)).trans ((pk_un (by omega)).trans a2)))⟩
      · exact Or.inr (ROn_c hOn (fun k hk => q7 k (by omega)) (fun k e1 e2 => (q6 k (by omega)).trans ((pk_un (by omega)).trans ((gk k (by omega)).trans (pk_un (by omega))))))
    · simp (decide := true) only [FX3_emptyBuffer, ea, z, FX2_endReceiving, FX2_beginReceiving, if_true, if_false]
  · have hl : RLk (upd (upd (upd l1 7 0) 5 (l1 5 + 1)) 6 (l1 6 - 1)) 164 G := by
      refine ⟨?_, ⟨?_, fun q => ⟨c1, k5, k6, a + 1, c - 1, e5, e6, ?_, by omega, by omega⟩, fun q => absurd q h4⟩, ⟨k7, Or.inl rfl, fun q => absurd q n01⟩, ?_⟩
      · rw [k0, k1, k2, k3]
        exact b1
      · rw [k4]
        exact b2
      · rcases Nat.lt_or_ge 1 c with q' | q'
        · omega
        · exfalso
          apply z
          rw [e6, show c - 1 = 0 by omega]
          decide
      · rw [k9]
        exact ⟨b8, b9⟩
    have hB1 : RB0 reg (upd mem a (l1 8)) tz tp tt tb l0 (upd (upd (upd l1 7 0) 5 (l1 5 + 1)) 6 (l1 6 - 1)) G := RB0_l1 hm gk hl
    refine ⟨by simp (decide := true) only [OX3_emptyBuffer, va, ea, z, if_true, if_false, true_implies, false_implies, implies_true, not_true_eq_false, not_false_eq_true, and_true, true_and, and_self, or_true, true_or], by simp (decide := true) only [FX3_emptyBuffer, ea, z, if_true, if_false], ?_, hB1⟩
    rcases hr with ⟨a1, a2⟩ | hOn
    · exact Or.inl ⟨a1, (gk 102 (by omega)).trans ((pk_un (by omega)).trans a2)⟩
    · exact Or.inr (ROn_c hOn (fun _ _ => rfl) (fun k e1 e2 => (gk k (by omega)).trans (pk_un (by omega))))
end EMP
