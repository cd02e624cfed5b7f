/-! PURE: a word is taken from who sends; a sending ends (GENERATED, wip/gen/p/39.py) -/
section SND
variable {F n g reg mem tz tp tt tb l0 l1 : mF} {b : Nat}
theorem RRun_c {reg reg' g g' : mF} (h : RRun reg g) (hr : ∀ k, k < 7 → reg' k = reg k) (hg : ∀ k, 102 ≤ k → k < 110 → g' k = g k) : RRun reg' g' := by
  rcases h with ⟨a1, a2⟩ | hOn
  · exact Or.inl ⟨(hr 4 (by decide)).trans a1, (hg 102 (by decide) (by decide)).trans a2⟩
  · exact Or.inr (ROn_c hOn hr hg)
theorem p_out0 (h : RM reg mem tz tp tt tb l0 l1 g) (h0 : ¬ l0 0 = -1) (h2 : ¬ l0 2 ≤ 0) : ∃ a : Nat, a < 96 ∧ l0 1 = nI a ∧ g 155 = nI a ∧ g 156 = l0 2 ∧ g a = mem a ∧ RM reg mem tz tp tt tb (upd (upd l0 1 (l0 1 + 1)) 2 (l0 2 - 1)) l1 (upd (upd g 155 (l0 1 + 1)) 156 (l0 2 - 1)) := by
  obtain ⟨hr, hB⟩ := h
  obtain ⟨⟨b1, b2, b3⟩, b4, b5, b6⟩ := hB.2.2.2.2.2.1
  obtain ⟨c1, c2, c3, c4, a, c, c5, c6, c7, c8⟩ := b2 h0
  have cp : 1 ≤ c := by
    rcases Nat.lt_or_ge 0 c with q | q
    · exact q
    · exfalso
      apply h2
      rw [c6, show c = 0 by omega]
      decide
  have e1 : l0 1 + 1 = nI (a + 1) := by rw [c5]; exact nI_1 a
  have e2 : l0 2 - 1 = nI (c - 1) := by rw [c6]; exact nI_sub (a := c) (c := 1) cp
  have c2 : g 155 = l0 1 := c2
  have c3 : g 156 = l0 2 := c3
  have c4 : g 157 = l0 3 := c4
  refine ⟨a, by omega, c5, c2.trans c5, c3, hB.1 a (by omega), RRun_c hr (fun _ _ => rfl) (fun k x y => by rw [pk_un (by omega), pk_un (by omega)]), RB0_l0 hB (fun k hk => by rw [pk_un (by omega), pk_un (by omega)]) ⟨⟨?_, fun q => ⟨c1, rfl, rfl, ?_, a + 1, c - 1, e1, e2, by omega, by omega⟩, fun q => absurd q h0⟩, ?_, ?_, ?_⟩⟩
  · rw [pk_un (by decide), pk_un (by decide)]
    exact b1
  · show upd (upd g 155 _) 156 _ 157 = l0 3
    rw [pk_un (by decide), pk_un (by decide)]
    exact c4
  · simp (decide := true) only [upd_at, if_true, if_false, Nat.reduceAdd]
    exact b4
  · simp (decide := true) only [upd_at, if_true, if_false, Nat.reduceAdd]
    exact b5
  · simp (decide := true) only [upd_at, if_true, if_false, Nat.reduceAdd]
    exact b6
theorem p_done0 (H : Hb F b) (h : RM reg mem tz tp tt tb l0 l1 g) (h0 : ¬ l0 0 = -1) : g 154 = l0 0 ∧ g 156 = l0 2 ∧ g 157 = l0 3 ∧ OX3_schedule (l0 0) reg mem ∧ OX10_schedule (l0 0) (fb F 0) (emb b n (upd g 154 (-1))) ∧ ∃ g1, FX10_schedule (l0 0) (fb F 0) (emb b n (upd g 154 (-1))) = (0, fb F 0, emb b n g1) ∧ RM (FX3_schedule (l0 0) reg mem).2.1 (FX3_schedule (l0 0) reg mem).2.2 tz tp tt tb (upd (upd (upd (upd l0 0 (-1)) 1 0) 2 0) 3 0) l1 g1 ∧ ∀ k, 102 ≤ k → g1 k = upd g 154 (-1) k := by
  obtain ⟨hr, hB⟩ := h
  obtain ⟨⟨b1, b2, b3⟩, b4, b5, b6⟩ := hB.2.2.2.2.2.1
  obtain ⟨c1, c2, c3, c4, -⟩ := b2 h0
  have hB1 : RB0 reg mem tz tp tt tb (upd (upd (upd (upd l0 0 (-1)) 1 0) 2 0) 3 0) l1 (upd g 154 (-1)) := by
    refine RB0_l0 hB (fun k hk => pk_un (by omega)) ⟨⟨rfl, fun q => absurd rfl q, fun _ => rfl⟩, ?_, ?_, ?_⟩
    · simp (decide := true) only [upd_at, if_true, if_false, Nat.reduceAdd]
      exact b4
    · simp (decide := true) only [upd_at, if_true, if_false, Nat.reduceAdd]
      exact b5
    · simp (decide := true) only [upd_at, if_true, if_false, Nat.reduceAdd]
      exact b6
  obtain ⟨g1, q1, q2, q3, q4, q5, q6, q7⟩ := p_sched (n := n) H hB1.1 hB1.2.1 c1
  exact ⟨b1, c3, c4, q3, q2, g1, q1, ⟨RRun_c hr (fun k hk => q7 k (by omega)) (fun k x y => (q6 k (by omega)).trans (pk_un (by omega))), RB0_q hB1 q4 q5 q7 q6⟩, fun k hk => q6 k (by omega)⟩
theorem p_out1 (h : RM reg mem tz tp tt tb l0 l1 g) (h0 : ¬ l1 0 = -1) (h2 : ¬ l1 2 ≤ 0) : ∃ a : Nat, a < 96 ∧ l1 1 = nI a ∧ g 165 = nI a ∧ g 166 = l1 2 ∧ g a = mem a ∧ RM reg mem tz tp tt tb l0 (upd (upd l1 1 (l1 1 + 1)) 2 (l1 2 - 1)) (upd (upd g 165 (l1 1 + 1)) 166 (l1 2 - 1)) := by
  obtain ⟨hr, hB⟩ := h
  obtain ⟨⟨b1, b2, b3⟩, b4, b5, b6⟩ := hB.2.2.2.2.2.2
  obtain ⟨c1, c2, c3, c4, a, c, c5, c6, c7, c8⟩ := b2 h0
  have cp : 1 ≤ c := by
    rcases Nat.lt_or_ge 0 c with q | q
    · exact q
    · exfalso
      apply h2
      rw [c6, show c = 0 by omega]
      decide
  have e1 : l1 1 + 1 = nI (a + 1) := by rw [c5]; exact nI_1 a
  have e2 : l1 2 - 1 = nI (c - 1) := by rw [c6]; exact nI_sub (a := c) (c := 1) cp
  have c2 : g 165 = l1 1 := c2
  have c3 : g 166 = l1 2 := c3
  have c4 : g 167 = l1 3 := c4
  refine ⟨a, by omega, c5, c2.trans c5, c3, hB.1 a (by omega), RRun_c hr (fun _ _ => rfl) (fun k x y => by rw [pk_un (by omega), pk_un (by omega)]), RB0_l1 hB (fun k hk => by rw [pk_un (by omega), pk_un (by omega)]) ⟨⟨?_, fun q => ⟨c1, rfl, rfl, ?_, a + 1, c - 1, e1, e2, by omega, by omega⟩, fun q => absurd q h0⟩, ?_, ?_, ?_⟩⟩
  · rw [pk_un (by decide), pk_un (by decide)]
    exact b1
  · show upd (upd g 165 _) 166 _ 167 = l1 3
    rw [pk_un (by decide), pk_un (by decide)]
    exact c4
  · simp (decide := true) only [upd_at, if_true, if_false, Nat.reduceAdd]
    exact b4
  · simp (decide := true) only [upd_at, if_true, if_false, Nat.reduceAdd]
    exact b5
  · simp (decide := true) only [upd_at, if_true, if_false, Nat.reduceAdd]
    exact b6
theorem p_done1 (H : Hb F b) (h : RM reg mem tz tp tt tb l0 l1 g) (h0 : ¬ l1 0 = -1) : g 164 = l1 0 ∧ g 166 = l1 2 ∧ g 167 = l1 3 ∧ OX3_schedule (l1 0) reg mem ∧ OX10_schedule (l1 0) (fb F 0) (emb b n (upd g 164 (-1))) ∧ ∃ g1, FX10_schedule (l1 0) (fb F 0) (emb b n (upd g 164 (-1))) = (0, fb F 0, emb b n g1) ∧ RM (FX3_schedule (l1 0) reg mem).2.1 (FX3_schedule (l1 0) reg mem).2.2 tz tp tt tb l0 (upd (upd (upd (upd l1 0 (-1)) 1 0) 2 0) 3 0) g1 ∧ ∀ k, 102 ≤ k → g1 k = upd g 164 (-1) k := by
  obtain ⟨hr, hB⟩ := h
  obtain ⟨⟨b1, b2, b3⟩, b4, b5, b6⟩ := hB.2.2.2.2.2.2
  obtain ⟨c1, c2, c3, c4, -⟩ := b2 h0
  have hB1 : RB0 reg mem tz tp tt tb l0 (upd (upd (upd (upd l1 0 (-1)) 1 0) 2 0) 3 0) (upd g 164 (-1)) := by
    refine RB0_l1 hB (fun k hk => pk_un (by omega)) ⟨⟨rfl, fun q => absurd rfl q, fun _ => rfl⟩, ?_, ?_, ?_⟩
    · simp (decide := true) only [upd_at, if_true, if_false, Nat.reduceAdd]
      exact b4
    · simp (decide := true) only [upd_at, if_true, if_false, Nat.reduceAdd]
      exact b5
    · simp (decide := true) only [upd_at, if_true, if_false, Nat.reduceAdd]
      exact b6
  obtain ⟨g1, q1, q2, q3, q4, q5, q6, q7⟩ := p_sched (n := n) H hB1.1 hB1.2.1 c1
  exact ⟨b1, c3, c4, q3, q2, g1, q1, ⟨RRun_c hr (fun k hk => q7 k (by omega)) (fun k x y => (q6 k (by omega)).trans (pk_un (by omega))), RB0_q hB1 q4 q5 q7 q6⟩, fun k hk => q6 k (by omega)⟩
end SND
