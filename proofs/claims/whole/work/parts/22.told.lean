/-! PURE: instructions on words (GENERATED, wip/gen/p/22.py) -/
def Res2 (r : Int32 × mF × mF) (m : Int32 × mF × mF) (f : mF) (b : Nat) (n mem tz tp tt tb l0 l1 : mF) : Prop :=
  (r.1 = 1 ∧ ∃ g', m.2 = (fb f 0, emb b n g') ∧ RM r.2.1 r.2.2 tz tp tt tb l0 l1 g') ∨ (r.1 = 0 ∧ r.2.2 = mem ∧ ∃ g', m.2 = (fb f 1, emb b n g'))
theorem Res2.z {r : Int32 × mF × mF} {m : Int32 × mF × mF} {f n mem tz tp tt tb l0 l1 : mF} {b : Nat} (h : Res2 r m f b n mem tz tp tt tb l0 l1) : r.1 = 0 ∨ r.1 = 1 := by
  rcases h with h | h
  · exact Or.inr h.1
  · exact Or.inl h.1
theorem goOff4 {reg mem : mF} : (FX3_goOff reg mem).2.1 4 = -1 := by
  show upd reg 4 (-1) 4 = -1
  exact pk_us
section WORDS
variable {f n g reg mem tz tp tt tb l0 l1 : mF} {b : Nat} {nn sl : Int32}
theorem RM_I {x : Int32} (h : RO reg mem tz tp tt tb l0 l1 g) : RM (upd reg 3 x) mem tz tp tt tb l0 l1 (upd g 105 x) := (RO_I h).M
theorem told_0 (H : Hb f b) (h : RO reg mem tz tp tt tb l0 l1 g) (hs : n 348 = sl) : OX3_performTold 0 nn sl reg mem ∧ OX10_doesNamed 0 nn (fb f 0) (emb b n g) ∧ Res2 (FX3_performTold 0 nn sl reg mem) (FX10_doesNamed 0 nn (fb f 0) (emb b n g)) f b n mem tz tp tt tb l0 l1 := by
  have e3 : g 103 = reg 4 := h.1.2.2.1
  have e6 : g 106 = reg 0 := h.1.2.2.2.2.2.2.1
  refine ⟨by simp (decide := true) only [OX3_performTold,  if_true, if_false, true_implies, false_implies, implies_true, not_true_eq_false, not_false_eq_true, and_true, true_and, and_self], by simp (decide := true) only [OX10_doesNamed, og103 H, g103 H, opush H,  if_true, if_false, true_implies, false_implies, implies_true, not_true_eq_false, not_false_eq_true, and_true, true_and, and_self], ?_⟩
  refine Or.inl ⟨?_, ?_⟩
  · simp (decide := true) only [FX3_performTold, if_true]
  · refine ⟨_, by simp (decide := true) only [FX10_doesNamed, g103 H, push_e H, if_true] <;> rfl, ?_⟩
    simp (decide := true) only [FX3_performTold, if_true]
    exact (RO_push h).M
theorem told_3 (H : Hb f b) (h : RO reg mem tz tp tt tb l0 l1 g) (hs : n 348 = sl) : OX3_performTold 3 nn sl reg mem ∧ OX10_doesNamed 3 nn (fb f 0) (emb b n g) ∧ Res2 (FX3_performTold 3 nn sl reg mem) (FX10_doesNamed 3 nn (fb f 0) (emb b n g)) f b n mem tz tp tt tb l0 l1 := by
  have e3 : g 103 = reg 4 := h.1.2.2.1
  have e6 : g 106 = reg 0 := h.1.2.2.2.2.2.2.1
  refine ⟨by simp (decide := true) only [OX3_performTold,  if_true, if_false, true_implies, false_implies, implies_true, not_true_eq_false, not_false_eq_true, and_true, true_and, and_self], by simp (decide := true) only [OX10_doesNamed, og103 H, g103 H, opush H,  if_true, if_false, true_implies, false_implies, implies_true, not_true_eq_false, not_false_eq_true, and_true, true_and, and_self], ?_⟩
  refine Or.inl ⟨?_, ?_⟩
  · simp (decide := true) only [FX3_performTold, if_true, if_false]
  · refine ⟨_, by simp (decide := true) only [FX10_doesNamed, g103 H, push_e H, e3, if_true, if_false] <;> rfl, ?_⟩
    simp (decide := true) only [FX3_performTold, if_true, if_false]
    exact (RO_push h).M
theorem told_9 (H : Hb f b) (h : RO reg mem tz tp tt tb l0 l1 g) (hs : n 348 = sl) : OX3_performTold 9 nn sl reg mem ∧ OX10_doesNamed 9 nn (fb f 0) (emb b n g) ∧ Res2 (FX3_performTold 9 nn sl reg mem) (FX10_doesNamed 9 nn (fb f 0) (emb b n g)) f b n mem tz tp tt tb l0 l1 := by
  have e3 : g 103 = reg 4 := h.1.2.2.1
  have e6 : g 106 = reg 0 := h.1.2.2.2.2.2.2.1
  refine ⟨by simp (decide := true) only [OX3_performTold,  if_true, if_false, true_implies, false_implies, implies_true, not_true_eq_false, not_false_eq_true, and_true, true_and, and_self], by simp (decide := true) only [OX10_doesNamed, og103 H, g103 H, opush H,  if_true, if_false, true_implies, false_implies, implies_true, not_true_eq_false, not_false_eq_true, and_true, true_and, and_self], ?_⟩
  refine Or.inl ⟨?_, ?_⟩
  · simp (decide := true) only [FX3_performTold, if_true, if_false]
  · refine ⟨_, by simp (decide := true) only [FX10_doesNamed, g103 H, push_e H, e3, if_true, if_false] <;> rfl, ?_⟩
    simp (decide := true) only [FX3_performTold, if_true, if_false]
    exact (RO_push h).M
theorem told_4 (H : Hb f b) (h : RO reg mem tz tp tt tb l0 l1 g) (hs : n 348 = sl) : OX3_performTold 4 nn sl reg mem ∧ OX10_doesNamed 4 nn (fb f 0) (emb b n g) ∧ Res2 (FX3_performTold 4 nn sl reg mem) (FX10_doesNamed 4 nn (fb f 0) (emb b n g)) f b n mem tz tp tt tb l0 l1 := by
  have e3 : g 103 = reg 4 := h.1.2.2.1
  have e6 : g 106 = reg 0 := h.1.2.2.2.2.2.2.1
  refine ⟨by simp (decide := true) only [OX3_performTold,  if_true, if_false, true_implies, false_implies, implies_true, not_true_eq_false, not_false_eq_true, and_true, true_and, and_self], by simp (decide := true) only [OX10_doesNamed, og103 H, g103 H, og106 H, g106 H, os106 H,  if_true, if_false, true_implies, false_implies, implies_true, not_true_eq_false, not_false_eq_true, and_true, true_and, and_self], ?_⟩
  refine Or.inl ⟨?_, ?_⟩
  · simp (decide := true) only [FX3_performTold, if_true, if_false]
  · refine ⟨_, by simp (decide := true) only [FX10_doesNamed, g103 H, g106 H, s106 H, e6, if_true, if_false] <;> rfl, ?_⟩
    simp (decide := true) only [FX3_performTold, if_true, if_false]
    exact (RO_A h).M
theorem told_5 (H : Hb f b) (h : RO reg mem tz tp tt tb l0 l1 g) (hs : n 348 = sl) : OX3_performTold 5 nn sl reg mem ∧ OX10_doesNamed 5 nn (fb f 0) (emb b n g) ∧ Res2 (FX3_performTold 5 nn sl reg mem) (FX10_doesNamed 5 nn (fb f 0) (emb b n g)) f b n mem tz tp tt tb l0 l1 := by
  have e3 : g 103 = reg 4 := h.1.2.2.1
  have e6 : g 106 = reg 0 := h.1.2.2.2.2.2.2.1
  refine ⟨by simp (decide := true) only [OX3_performTold,  if_true, if_false, true_implies, false_implies, implies_true, not_true_eq_false, not_false_eq_true, and_true, true_and, and_self], by simp (decide := true) only [OX10_doesNamed, og103 H, g103 H, og106 H, g106 H, os106 H,  if_true, if_false, true_implies, false_implies, implies_true, not_true_eq_false, not_false_eq_true, and_true, true_and, and_self], ?_⟩
  by_cases c : reg 0 = nn
  · refine Or.inl ⟨?_, ?_⟩
    · simp (decide := true) only [FX3_performTold, c, if_true, if_false]
    · refine ⟨_, by simp (decide := true) only [FX10_doesNamed, g103 H, g106 H, s106 H, e6, c, if_true, if_false] <;> rfl, ?_⟩
      simp (decide := true) only [FX3_performTold, c, if_true, if_false]
      exact (RO_A h).M
  · refine Or.inl ⟨?_, ?_⟩
    · simp (decide := true) only [FX3_performTold, c, if_true, if_false]
    · refine ⟨_, by simp (decide := true) only [FX10_doesNamed, g103 H, g106 H, s106 H, e6, c, if_true, if_false] <;> rfl, ?_⟩
      simp (decide := true) only [FX3_performTold, c, if_true, if_false]
      exact (RO_A h).M
theorem told_1 (H : Hb f b) (h : RO reg mem tz tp tt tb l0 l1 g) (hs : n 348 = sl) : OX3_performTold 1 nn sl reg mem ∧ OX10_doesNamed 1 nn (fb f 0) (emb b n g) ∧ Res2 (FX3_performTold 1 nn sl reg mem) (FX10_doesNamed 1 nn (fb f 0) (emb b n g)) f b n mem tz tp tt tb l0 l1 := by
  have e3 : g 103 = reg 4 := h.1.2.2.1
  have e6 : g 106 = reg 0 := h.1.2.2.2.2.2.2.1
  by_cases hp : isPl (reg 4 + nn)
  · have e := at_ok (n := n) (g := g) H hp
    have em : g (reg 4 + nn).toNatClampNeg = mem (reg 4 + nn).toNatClampNeg := h.2.1 _ (pl_cl hp).1
    refine ⟨by simp (decide := true) only [OX3_performTold, OX3_pushWord, FX3_pushWord, isPlace9_1 hp, pl_vp hp, if_true, if_false, true_implies, false_implies, implies_true, not_true_eq_false, not_false_eq_true, and_true, true_and, and_self, or_true], by simp (decide := true) only [OX10_doesNamed, og103 H, g103 H, e3, oat H (Or.inl rfl), e, opush H, if_true, if_false, true_implies, false_implies, implies_true, not_true_eq_false, not_false_eq_true, and_true, true_and, and_self], ?_⟩
    refine Or.inl ⟨?_, ?_⟩
    · simp (decide := true) only [FX3_performTold, FX3_pushWord, isPlace9_1 hp, if_true, if_false]
    · refine ⟨_, by simp (decide := true) only [FX10_doesNamed, g103 H, e3, e, push_e H, em, if_true, if_false] <;> rfl, ?_⟩
      simp (decide := true) only [FX3_performTold, FX3_pushWord, isPlace9_1 hp, if_true, if_false]
      exact (RO_push h).M
  · have e := at_no (f := f) (b := b) (n := n) (g := g) (z := 0) hp
    refine ⟨by simp (decide := true) only [OX3_performTold, OX3_pushWord, FX3_pushWord, isPlace9_0 hp, if_true, if_false, true_implies, false_implies, implies_true, not_true_eq_false, not_false_eq_true, and_true, true_and, and_self, true_or], by simp (decide := true) only [OX10_doesNamed, og103 H, g103 H, e3, oat H (Or.inl rfl), e, opush H, if_true, if_false, true_implies, false_implies, implies_true, not_true_eq_false, not_false_eq_true, and_true, true_and, and_self], ?_⟩
    refine Or.inr ⟨?_, ?_, _, by simp (decide := true) only [FX10_doesNamed, g103 H, e3, e, push_e H, if_true, if_false] <;> rfl⟩
    · simp (decide := true) only [FX3_performTold, FX3_pushWord, isPlace9_0 hp, if_true, if_false]
    · simp (decide := true) only [FX3_performTold, FX3_pushWord, isPlace9_0 hp, if_true, if_false]
theorem told_2 (H : Hb f b) (h : RO reg mem tz tp tt tb l0 l1 g) (hs : n 348 = sl) : OX3_performTold 2 nn sl reg mem ∧ OX10_doesNamed 2 nn (fb f 0) (emb b n g) ∧ Res2 (FX3_performTold 2 nn sl reg mem) (FX10_doesNamed 2 nn (fb f 0) (emb b n g)) f b n mem tz tp tt tb l0 l1 := by
  have e3 : g 103 = reg 4 := h.1.2.2.1
  have e6 : g 106 = reg 0 := h.1.2.2.2.2.2.2.1
  by_cases hp : isPl (reg 4 + nn)
  · have e := lay_ok (n := n) (g := g) (v := reg 0) H hp
    refine ⟨by simp (decide := true) only [OX3_performTold, OX3_popWord, FX3_popWord, isPlace9_1 hp, pl_vp hp, if_true, if_false, true_implies, false_implies, implies_true, not_true_eq_false, not_false_eq_true, and_true, true_and, and_self, or_true], by simp (decide := true) only [OX10_doesNamed, og103 H, g103 H, og106 H, g106 H, e3, e6, olay H (Or.inl rfl), e, opop H, if_true, if_false, true_implies, false_implies, implies_true, not_true_eq_false, not_false_eq_true, and_true, true_and, and_self], ?_⟩
    refine Or.inl ⟨?_, ?_⟩
    · simp (decide := true) only [FX3_performTold, FX3_popWord, isPlace9_1 hp, if_true, if_false]
    · refine ⟨_, by simp (decide := true) only [FX10_doesNamed, g103 H, g106 H, e3, e6, e, pop_e H, if_true, if_false] <;> rfl, ?_⟩
      simp (decide := true) only [FX3_performTold, FX3_popWord, isPlace9_1 hp, if_true, if_false]
      exact (RO_pop (RO_m (pl_cl hp).1 h)).M
  · have e := lay_no (f := f) (b := b) (n := n) (g := g) (z := 0) (v := reg 0) hp
    refine ⟨by simp (decide := true) only [OX3_performTold, OX3_popWord, FX3_popWord, isPlace9_0 hp, if_true, if_false, true_implies, false_implies, implies_true, not_true_eq_false, not_false_eq_true, and_true, true_and, and_self, true_or], by simp (decide := true) only [OX10_doesNamed, og103 H, g103 H, og106 H, g106 H, e3, e6, olay H (Or.inl rfl), e, opop H, if_true, if_false, true_implies, false_implies, implies_true, not_true_eq_false, not_false_eq_true, and_true, true_and, and_self], ?_⟩
    refine Or.inr ⟨?_, ?_, _, by simp (decide := true) only [FX10_doesNamed, g103 H, g106 H, e3, e6, e, pop_e H, if_true, if_false] <;> rfl⟩
    · simp (decide := true) only [FX3_performTold, FX3_popWord, isPlace9_0 hp, if_true, if_false]
    · simp (decide := true) only [FX3_performTold, FX3_popWord, isPlace9_0 hp, if_true, if_false]
theorem told_6 (H : Hb f b) (h : RO reg mem tz tp tt tb l0 l1 g) (hs : n 348 = sl) : OX3_performTold 6 nn sl reg mem ∧ OX10_doesNamed 6 nn (fb f 0) (emb b n g) ∧ Res2 (FX3_performTold 6 nn sl reg mem) (FX10_doesNamed 6 nn (fb f 0) (emb b n g)) f b n mem tz tp tt tb l0 l1 := by
  have e3 : g 103 = reg 4 := h.1.2.2.1
  have e6 : g 106 = reg 0 := h.1.2.2.2.2.2.2.1
  by_cases hp : isWv (reg 4 + nn)
  · refine ⟨by simp (decide := true) only [OX3_performTold, isW9_1 hp, if_true, if_false, true_implies, false_implies, implies_true, not_true_eq_false, not_false_eq_true, and_true, true_and, and_self, or_true], by simp (decide := true) only [OX10_doesNamed, og103 H, g103 H, e3, isInW_1 hp, needs_ok one0, os103 H, if_true, if_false, true_implies, false_implies, implies_true, not_true_eq_false, not_false_eq_true, and_true, true_and, and_self], ?_⟩
    refine Or.inl ⟨?_, ?_⟩
    · simp (decide := true) only [FX3_performTold, isW9_1 hp, if_true, if_false]
    · refine ⟨_, by simp (decide := true) only [FX10_doesNamed, g103 H, e3, isInW_1 hp, needs_ok one0, s103 H, if_true, if_false] <;> rfl, ?_⟩
      simp (decide := true) only [FX3_performTold, if_true, if_false]
      exact (RO_W hp h).M
  · refine ⟨by simp (decide := true) only [OX3_performTold, isW9_0 hp, if_true, if_false, true_implies, false_implies, implies_true, not_true_eq_false, not_false_eq_true, and_true, true_and, and_self, true_or], by simp (decide := true) only [OX10_doesNamed, og103 H, g103 H, e3, isInW_0 hp, needs_bad, os103 H, if_true, if_false, true_implies, false_implies, implies_true, not_true_eq_false, not_false_eq_true, and_true, true_and, and_self], ?_⟩
    refine Or.inr ⟨?_, ?_, _, by simp (decide := true) only [FX10_doesNamed, g103 H, e3, isInW_0 hp, needs_bad, s103 H, if_true, if_false] <;> rfl⟩
    · simp (decide := true) only [FX3_performTold, isW9_0 hp, if_true, if_false]
    · simp (decide := true) only [FX3_performTold, if_true, if_false]
theorem told_8 (H : Hb f b) (h : RO reg mem tz tp tt tb l0 l1 g) (hs : n 348 = sl) : OX3_performTold 8 nn sl reg mem ∧ OX10_doesNamed 8 nn (fb f 0) (emb b n g) ∧ Res2 (FX3_performTold 8 nn sl reg mem) (FX10_doesNamed 8 nn (fb f 0) (emb b n g)) f b n mem tz tp tt tb l0 l1 := by
  have e3 : g 103 = reg 4 := h.1.2.2.1
  have e6 : g 106 = reg 0 := h.1.2.2.2.2.2.2.1
  refine ⟨by simp (decide := true) only [OX3_performTold, if_true, if_false, true_implies, false_implies, implies_true, not_true_eq_false, not_false_eq_true, and_true, true_and, and_self, or_true], by simp (decide := true) only [OX10_doesNamed, og103 H, g103 H, og106 H, g106 H, os105 H, opop H, if_true, if_false, true_implies, false_implies, implies_true, not_true_eq_false, not_false_eq_true, and_true, true_and, and_self], ?_⟩
  by_cases c : reg 0 = 0
  · refine Or.inl ⟨?_, ?_⟩
    · simp (decide := true) only [FX3_performTold, c, if_true, if_false]
    · refine ⟨_, by simp (decide := true) only [FX10_doesNamed, g103 H, g106 H, s105 H, e6, c, if_true, if_false] <;> rfl, ?_⟩
      simp (decide := true) only [FX3_performTold, c, if_true, if_false]
      exact (RO_I h).M
  · refine Or.inl ⟨?_, ?_⟩
    · simp (decide := true) only [FX3_performTold, c, if_true, if_false]
    · refine ⟨_, by simp (decide := true) only [FX10_doesNamed, g103 H, g106 H, pop_e H, e6, c, if_true, if_false] <;> rfl, ?_⟩
      simp (decide := true) only [FX3_performTold, c, if_true, if_false]
      exact (RO_pop h).M
theorem told_7 (H : Hb f b) (h : RO reg mem tz tp tt tb l0 l1 g) (hs : n 348 = sl) : OX3_performTold 7 nn sl reg mem ∧ OX10_doesNamed 7 nn (fb f 0) (emb b n g) ∧ Res2 (FX3_performTold 7 nn sl reg mem) (FX10_doesNamed 7 nn (fb f 0) (emb b n g)) f b n mem tz tp tt tb l0 l1 := by
  have e3 : g 103 = reg 4 := h.1.2.2.1
  have e6 : g 106 = reg 0 := h.1.2.2.2.2.2.2.1
  have h7 := RO_I (x := nn) h
  have q5 : upd g 105 nn 104 = reg 5 := h.1.2.2.2.1
  have q9 : upd g 105 nn 109 = reg 6 := h.1.2.2.2.2.2.2.2.2.2
  have qs : emb b n (upd g 105 nn) 348 = sl := (emb_out (by rcases H.2 with h | h <;> omega)).trans hs
  by_cases c : reg 5 = 1
  · by_cases c2 : reg 6 < sl
    · refine ⟨by simp (decide := true) only [OX3_performTold, OX3_jump, c, c2, if_true, if_false, true_implies, false_implies, implies_true, not_true_eq_false, not_false_eq_true, and_true, true_and, and_self, or_true], by simp (decide := true) only [OX10_doesNamed, og103 H, g103 H, os105 H, s105 H, og104 H, g104 H, og109 H, g109 H, q5, q9, qs, c, c2, if_true, if_false, true_implies, false_implies, implies_true, not_true_eq_false, not_false_eq_true, and_true, true_and, and_self], ?_⟩
      refine Or.inl ⟨?_, ?_⟩
      · simp (decide := true) only [FX3_performTold, FX3_jump, c, c2, if_true, if_false]
      · refine ⟨_, by simp (decide := true) only [FX10_doesNamed, g103 H, s105 H, g104 H, g109 H, q5, q9, qs, c, c2, if_true, if_false] <;> rfl, ?_⟩
        simp (decide := true) only [FX3_performTold, FX3_jump, c, c2, if_true, if_false]
        exact h7.M
    · have eo := off_e (n := n) H h7.1
      obtain ⟨o1, o2⟩ := RM_goOff h7
      obtain ⟨w1, w2, w3, w4⟩ := own_R h7.1
      have hn : ¬ (upd reg 3 nn 4 - 1).toNatClampNeg = 103 ∧ ¬ (upd reg 3 nn 4 - 1).toNatClampNeg = 104 := by
        have := (pl_cl (wS1 h7.1.1)).1
        constructor <;> omega
      have wo : 2 * (upd (upd (upd g 105 nn) (upd reg 3 nn 4 - 1).toNatClampNeg (upd reg 3 nn 3)) 102 0) 103 + (upd (upd (upd g 105 nn) (upd reg 3 nn 4 - 1).toNatClampNeg (upd reg 3 nn 3)) 102 0) 104 = FX3_own (upd reg 3 nn) := by
        rw [pk_un (show (103 : Nat) ≠ 102 by decide), pk_un (Ne.symm hn.1), pk_un (show (104 : Nat) ≠ 102 by decide), pk_un (Ne.symm hn.2)]
        exact w1
      obtain ⟨g', s1, s2, s3, s4, s5, s6, s7⟩ := p_sched (n := n) H o2.2.1 o2.2.2.1 w2
      refine ⟨by simp (decide := true) only [OX3_performTold, OX3_jump, c, c2, o1, s3, if_true, if_false, true_implies, false_implies, implies_true, not_true_eq_false, not_false_eq_true, and_true, true_and, and_self, or_true], by simp (decide := true) only [OX10_doesNamed, og103 H, g103 H, os105 H, s105 H, og104 H, g104 H, og109 H, g109 H, q5, q9, qs, c, c2, ooff H (Or.inl rfl), eo, oown H, own_e H, wo, s2, if_true, if_false, true_implies, false_implies, implies_true, not_true_eq_false, not_false_eq_true, and_true, true_and, and_self], ?_⟩
      refine Or.inl ⟨?_, ?_⟩
      · simp (decide := true) only [FX3_performTold, FX3_jump, c, c2, if_true, if_false]
      · refine ⟨g', by simp (decide := true) only [FX10_doesNamed, g103 H, s105 H, g104 H, g109 H, q5, q9, qs, c, c2, eo, own_e H, wo, s1, if_true, if_false] <;> rfl, ?_⟩
        simp (decide := true) only [FX3_performTold, FX3_jump, c, c2, if_true, if_false]
        have z1 : ROff (FX3_goOff (upd reg 3 nn) mem).2.1 (upd (upd (upd g 105 nn) (upd reg 3 nn 4 - 1).toNatClampNeg (upd reg 3 nn 3)) 102 0) := ⟨goOff4, pk_us⟩
        exact ⟨Or.inl ⟨(s7 4 (by omega)).trans z1.1, (s6 102 (by omega)).trans z1.2⟩, RB0_q o2.2 s4 s5 s7 s6⟩
  · refine ⟨by simp (decide := true) only [OX3_performTold, OX3_jump, c, if_true, if_false, true_implies, false_implies, implies_true, not_true_eq_false, not_false_eq_true, and_true, true_and, and_self, or_true], by simp (decide := true) only [OX10_doesNamed, og103 H, g103 H, os105 H, s105 H, og104 H, g104 H, q5, c, if_true, if_false, true_implies, false_implies, implies_true, not_true_eq_false, not_false_eq_true, and_true, true_and, and_self], ?_⟩
    refine Or.inl ⟨?_, ?_⟩
    · simp (decide := true) only [FX3_performTold, FX3_jump, c, if_true, if_false]
    · refine ⟨_, by simp (decide := true) only [FX10_doesNamed, g103 H, s105 H, g104 H, q5, c, if_true, if_false] <;> rfl, ?_⟩
      simp (decide := true) only [FX3_performTold, FX3_jump, c, if_true, if_false]
      exact h7.M
theorem p_told (H : Hb f b) (h : RO reg mem tz tp tt tb l0 l1 g) (hs : n 348 = sl) {op : Int32} {k : Nat} (hk : k < 10) (e : op = nI k) : OX3_performTold op nn sl reg mem ∧ OX10_doesNamed op nn (fb f 0) (emb b n g) ∧ Res2 (FX3_performTold op nn sl reg mem) (FX10_doesNamed op nn (fb f 0) (emb b n g)) f b n mem tz tp tt tb l0 l1 := by
  subst e
  rcases (show k = 0 ∨ k = 1 ∨ k = 2 ∨ k = 3 ∨ k = 4 ∨ k = 5 ∨ k = 6 ∨ k = 7 ∨ k = 8 ∨ k = 9 by omega) with rfl | rfl | rfl | rfl | rfl | rfl | rfl | rfl | rfl | rfl
  · exact told_0 H h hs
  · exact told_1 H h hs
  · exact told_2 H h hs
  · exact told_3 H h hs
  · exact told_4 H h hs
  · exact told_5 H h hs
  · exact told_6 H h hs
  · exact told_7 H h hs
  · exact told_8 H h hs
  · exact told_9 H h hs
theorem words_10 (H : Hb f b) (h : RO reg mem tz tp tt tb l0 l1 g) : OX3_performOnWords 10 reg mem ∧ OX10_doesPlain 10 (fb f 0) (emb b n g) ∧ Res2 (FX3_performOnWords 10 reg mem) (FX10_doesPlain 10 (fb f 0) (emb b n g)) f b n mem tz tp tt tb l0 l1 := by
  have e6 : g 106 = reg 0 := h.1.2.2.2.2.2.2.1
  have e7 : g 107 = reg 1 := h.1.2.2.2.2.2.2.2.1
  refine ⟨by simp (decide := true) only [OX3_performOnWords, if_true, if_false, true_implies, false_implies, implies_true, not_true_eq_false, not_false_eq_true, and_true, true_and, and_self, or_true, true_or], by simp (decide := true) only [OX10_doesPlain, og106 H, og107 H, g106 H, g107 H, ojoined H, if_true, if_false, true_implies, false_implies, implies_true, not_true_eq_false, not_false_eq_true, and_true, true_and, and_self, or_true, true_or], ?_⟩
  refine Or.inl ⟨?_, ?_⟩
  · simp (decide := true) only [FX3_performOnWords, if_true, if_false]
  · refine ⟨_, by simp (decide := true) only [FX10_doesPlain, g106 H, g107 H, e6, e7, joined_e H, if_true, if_false] <;> rfl, ?_⟩
    simp (decide := true) only [FX3_performOnWords, if_true, if_false]
    exact (RO_joined h).M

theorem words_11 (H : Hb f b) (h : RO reg mem tz tp tt tb l0 l1 g) : OX3_performOnWords 11 reg mem ∧ OX10_doesPlain 11 (fb f 0) (emb b n g) ∧ Res2 (FX3_performOnWords 11 reg mem) (FX10_doesPlain 11 (fb f 0) (emb b n g)) f b n mem tz tp tt tb l0 l1 := by
  have e6 : g 106 = reg 0 := h.1.2.2.2.2.2.2.1
  have e7 : g 107 = reg 1 := h.1.2.2.2.2.2.2.2.1
  refine ⟨by simp (decide := true) only [OX3_performOnWords, if_true, if_false, true_implies, false_implies, implies_true, not_true_eq_false, not_false_eq_true, and_true, true_and, and_self, or_true, true_or], by simp (decide := true) only [OX10_doesPlain, og106 H, og107 H, g106 H, g107 H, ojoined H, if_true, if_false, true_implies, false_implies, implies_true, not_true_eq_false, not_false_eq_true, and_true, true_and, and_self, or_true, true_or], ?_⟩
  refine Or.inl ⟨?_, ?_⟩
  · simp (decide := true) only [FX3_performOnWords, if_true, if_false]
  · refine ⟨_, by simp (decide := true) only [FX10_doesPlain, g106 H, g107 H, e6, e7, joined_e H, if_true, if_false] <;> rfl, ?_⟩
    simp (decide := true) only [FX3_performOnWords, if_true, if_false]
    exact (RO_joined h).M

theorem words_12 (H : Hb f b) (h : RO reg mem tz tp tt tb l0 l1 g) : OX3_performOnWords 12 reg mem ∧ OX10_doesPlain 12 (fb f 0) (emb b n g) ∧ Res2 (FX3_performOnWords 12 reg mem) (FX10_doesPlain 12 (fb f 0) (emb b n g)) f b n mem tz tp tt tb l0 l1 := by
  have e6 : g 106 = reg 0 := h.1.2.2.2.2.2.2.1
  have e7 : g 107 = reg 1 := h.1.2.2.2.2.2.2.2.1
  refine ⟨by simp (decide := true) only [OX3_performOnWords, if_true, if_false, true_implies, false_implies, implies_true, not_true_eq_false, not_false_eq_true, and_true, true_and, and_self, or_true, true_or], by simp (decide := true) only [OX10_doesPlain, og106 H, og107 H, g106 H, g107 H, ojoined H, if_true, if_false, true_implies, false_implies, implies_true, not_true_eq_false, not_false_eq_true, and_true, true_and, and_self, or_true, true_or], ?_⟩
  refine Or.inl ⟨?_, ?_⟩
  · simp (decide := true) only [FX3_performOnWords, if_true, if_false]
  · refine ⟨_, by simp (decide := true) only [FX10_doesPlain, g106 H, g107 H, e6, e7, joined_e H, if_true, if_false] <;> rfl, ?_⟩
    simp (decide := true) only [FX3_performOnWords, if_true, if_false]
    exact (RO_joined h).M

theorem words_13 (H : Hb f b) (h : RO reg mem tz tp tt tb l0 l1 g) : OX3_performOnWords 13 reg mem ∧ OX10_doesPlain 13 (fb f 0) (emb b n g) ∧ Res2 (FX3_performOnWords 13 reg mem) (FX10_doesPlain 13 (fb f 0) (emb b n g)) f b n mem tz tp tt tb l0 l1 := by
  have e6 : g 106 = reg 0 := h.1.2.2.2.2.2.2.1
  have e7 : g 107 = reg 1 := h.1.2.2.2.2.2.2.2.1
  refine ⟨by simp (decide := true) only [OX3_performOnWords, if_true, if_false, true_implies, false_implies, implies_true, not_true_eq_false, not_false_eq_true, and_true, true_and, and_self, or_true, true_or], by simp (decide := true) only [OX10_doesPlain, og106 H, og107 H, g106 H, g107 H, ojoined H, if_true, if_false, true_implies, false_implies, implies_true, not_true_eq_false, not_false_eq_true, and_true, true_and, and_self, or_true, true_or], ?_⟩
  by_cases c : reg 1 ≤ reg 0
  · refine Or.inl ⟨?_, ?_⟩
    · simp (decide := true) only [FX3_performOnWords, c, if_true, if_false]
    · refine ⟨_, by simp (decide := true) only [FX10_doesPlain, g106 H, g107 H, e6, e7, joined_e H, c, if_true, if_false] <;> rfl, ?_⟩
      simp (decide := true) only [FX3_performOnWords, c, if_true, if_false]
      exact (RO_joined h).M
  · refine Or.inl ⟨?_, ?_⟩
    · simp (decide := true) only [FX3_performOnWords, c, if_true, if_false]
    · refine ⟨_, by simp (decide := true) only [FX10_doesPlain, g106 H, g107 H, e6, e7, joined_e H, c, if_true, if_false] <;> rfl, ?_⟩
      simp (decide := true) only [FX3_performOnWords, c, if_true, if_false]
      exact (RO_joined h).M

theorem words_14 (H : Hb f b) (h : RO reg mem tz tp tt tb l0 l1 g) : OX3_performOnWords 14 reg mem ∧ OX10_doesPlain 14 (fb f 0) (emb b n g) ∧ Res2 (FX3_performOnWords 14 reg mem) (FX10_doesPlain 14 (fb f 0) (emb b n g)) f b n mem tz tp tt tb l0 l1 := by
  have e6 : g 106 = reg 0 := h.1.2.2.2.2.2.2.1
  have e7 : g 107 = reg 1 := h.1.2.2.2.2.2.2.2.1
  refine ⟨by simp (decide := true) only [OX3_performOnWords, if_true, if_false, true_implies, false_implies, implies_true, not_true_eq_false, not_false_eq_true, and_true, true_and, and_self, or_true, true_or], by simp (decide := true) only [OX10_doesPlain, og106 H, og107 H, g106 H, g107 H, os106 H, os107 H, s106 H, if_true, if_false, true_implies, false_implies, implies_true, not_true_eq_false, not_false_eq_true, and_true, true_and, and_self, or_true, true_or], ?_⟩
  refine Or.inl ⟨?_, ?_⟩
  · simp (decide := true) only [FX3_performOnWords, if_true, if_false]
  · refine ⟨_, by simp (decide := true) only [FX10_doesPlain, g106 H, g107 H, e6, e7, s106 H, s107 H, if_true, if_false] <;> rfl, ?_⟩
    simp (decide := true) only [FX3_performOnWords, if_true, if_false]
    exact (RO_B (RO_A h)).M

theorem words_15 (H : Hb f b) (h : RO reg mem tz tp tt tb l0 l1 g) : OX3_performOnWords 15 reg mem ∧ OX10_doesPlain 15 (fb f 0) (emb b n g) ∧ Res2 (FX3_performOnWords 15 reg mem) (FX10_doesPlain 15 (fb f 0) (emb b n g)) f b n mem tz tp tt tb l0 l1 := by
  have e6 : g 106 = reg 0 := h.1.2.2.2.2.2.2.1
  have e7 : g 107 = reg 1 := h.1.2.2.2.2.2.2.2.1
  refine ⟨by simp (decide := true) only [OX3_performOnWords, if_true, if_false, true_implies, false_implies, implies_true, not_true_eq_false, not_false_eq_true, and_true, true_and, and_self, or_true, true_or], by simp (decide := true) only [OX10_doesPlain, og106 H, og107 H, g106 H, g107 H, opush H, if_true, if_false, true_implies, false_implies, implies_true, not_true_eq_false, not_false_eq_true, and_true, true_and, and_self, or_true, true_or], ?_⟩
  refine Or.inl ⟨?_, ?_⟩
  · simp (decide := true) only [FX3_performOnWords, if_true, if_false]
  · refine ⟨_, by simp (decide := true) only [FX10_doesPlain, g106 H, g107 H, e6, e7, push_e H, if_true, if_false] <;> rfl, ?_⟩
    simp (decide := true) only [FX3_performOnWords, if_true, if_false]
    exact (by have h9 := (RO_push (x := reg 0) h).M; rw [e6, e7] at h9; exact h9)

theorem words_16 (H : Hb f b) (h : RO reg mem tz tp tt tb l0 l1 g) : OX3_performOnWords 16 reg mem ∧ OX10_doesPlain 16 (fb f 0) (emb b n g) ∧ Res2 (FX3_performOnWords 16 reg mem) (FX10_doesPlain 16 (fb f 0) (emb b n g)) f b n mem tz tp tt tb l0 l1 := by
  have e6 : g 106 = reg 0 := h.1.2.2.2.2.2.2.1
  have e7 : g 107 = reg 1 := h.1.2.2.2.2.2.2.2.1
  by_cases hp : isPl (reg 0)
  · have e := at_ok (n := n) (g := g) H hp
    have em : g (reg 0).toNatClampNeg = mem (reg 0).toNatClampNeg := h.2.1 _ (pl_cl hp).1
    refine ⟨by simp (decide := true) only [OX3_performOnWords, OX3_load, FX3_load, isPlace9_1 hp, pl_vp hp, if_true, if_false, true_implies, false_implies, implies_true, not_true_eq_false, not_false_eq_true, and_true, true_and, and_self, or_true, true_or], by simp (decide := true) only [OX10_doesPlain, og106 H, og107 H, g106 H, g107 H, e6, oat H (Or.inl rfl), e, os106 H, if_true, if_false, true_implies, false_implies, implies_true, not_true_eq_false, not_false_eq_true, and_true, true_and, and_self, or_true, true_or], ?_⟩
    refine Or.inl ⟨?_, ?_⟩
    · simp (decide := true) only [FX3_performOnWords, FX3_load, isPlace9_1 hp, if_true, if_false]
    · refine ⟨_, by simp (decide := true) only [FX10_doesPlain, g106 H, g107 H, e6, e7, e, em, s106 H, if_true, if_false] <;> rfl, ?_⟩
      simp (decide := true) only [FX3_performOnWords, FX3_load, isPlace9_1 hp, if_true, if_false]
      exact (RO_A h).M
  · have e := at_no (f := f) (b := b) (n := n) (g := g) (z := 0) hp
    refine ⟨by simp (decide := true) only [OX3_performOnWords, OX3_load, FX3_load, isPlace9_0 hp, if_true, if_false, true_implies, false_implies, implies_true, not_true_eq_false, not_false_eq_true, and_true, true_and, and_self, or_true, true_or], by simp (decide := true) only [OX10_doesPlain, og106 H, og107 H, g106 H, g107 H, e6, oat H (Or.inl rfl), e, os106 H, if_true, if_false, true_implies, false_implies, implies_true, not_true_eq_false, not_false_eq_true, and_true, true_and, and_self, or_true, true_or], ?_⟩
    refine Or.inr ⟨?_, ?_, _, by simp (decide := true) only [FX10_doesPlain, g106 H, g107 H, e6, e7, e, s106 H, if_true, if_false] <;> rfl⟩
    · simp (decide := true) only [FX3_performOnWords, FX3_load, isPlace9_0 hp, if_true, if_false]
    · simp (decide := true) only [FX3_performOnWords, FX3_load, isPlace9_0 hp, if_true, if_false]
theorem words_17 (H : Hb f b) (h : RO reg mem tz tp tt tb l0 l1 g) : OX3_performOnWords 17 reg mem ∧ OX10_doesPlain 17 (fb f 0) (emb b n g) ∧ Res2 (FX3_performOnWords 17 reg mem) (FX10_doesPlain 17 (fb f 0) (emb b n g)) f b n mem tz tp tt tb l0 l1 := by
  have e6 : g 106 = reg 0 := h.1.2.2.2.2.2.2.1
  have e7 : g 107 = reg 1 := h.1.2.2.2.2.2.2.2.1
  by_cases hp : isPl (reg 0)
  · have e := lay_ok (n := n) (g := g) (v := reg 1) H hp
    have h2 := RO_pop (RO_m (x := reg 1) (pl_cl hp).1 h)
    refine ⟨by simp (decide := true) only [OX3_performOnWords, OX3_store, FX3_store, isPlace9_1 hp, pl_vp hp, if_true, if_false, true_implies, false_implies, implies_true, not_true_eq_false, not_false_eq_true, and_true, true_and, and_self, or_true, true_or], by simp (decide := true) only [OX10_doesPlain, og106 H, og107 H, g106 H, g107 H, e6, e7, olay H (Or.inl rfl), e, opop H, pop_e H, if_true, if_false, true_implies, false_implies, implies_true, not_true_eq_false, not_false_eq_true, and_true, true_and, and_self, or_true, true_or], ?_⟩
    refine Or.inl ⟨?_, ?_⟩
    · simp (decide := true) only [FX3_performOnWords, FX3_store, isPlace9_1 hp, if_true, if_false]
    · refine ⟨_, by simp (decide := true) only [FX10_doesPlain, g106 H, g107 H, e6, e7, e, pop_e H, if_true, if_false] <;> rfl, ?_⟩
      simp (decide := true) only [FX3_performOnWords, FX3_store, isPlace9_1 hp, if_true, if_false]
      exact (RO_pop h2).M
  · have e := lay_no (f := f) (b := b) (n := n) (g := g) (z := 0) (v := reg 1) hp
    refine ⟨by simp (decide := true) only [OX3_performOnWords, OX3_store, FX3_store, isPlace9_0 hp, if_true, if_false, true_implies, false_implies, implies_true, not_true_eq_false, not_false_eq_true, and_true, true_and, and_self, or_true, true_or], by simp (decide := true) only [OX10_doesPlain, og106 H, og107 H, g106 H, g107 H, e6, e7, olay H (Or.inl rfl), e, opop H, pop_e H, if_true, if_false, true_implies, false_implies, implies_true, not_true_eq_false, not_false_eq_true, and_true, true_and, and_self, or_true, true_or], ?_⟩
    refine Or.inr ⟨?_, ?_, _, by simp (decide := true) only [FX10_doesPlain, g106 H, g107 H, e6, e7, e, pop_e H, if_true, if_false] <;> rfl⟩
    · simp (decide := true) only [FX3_performOnWords, FX3_store, isPlace9_0 hp, if_true, if_false]
    · simp (decide := true) only [FX3_performOnWords, FX3_store, isPlace9_0 hp, if_true, if_false]
theorem p_words (H : Hb f b) (h : RO reg mem tz tp tt tb l0 l1 g) {op : Int32} {k : Nat} (h1 : 10 ≤ k) (h2 : k < 18) (e : op = nI k) : OX3_performOnWords op reg mem ∧ OX10_doesPlain op (fb f 0) (emb b n g) ∧ Res2 (FX3_performOnWords op reg mem) (FX10_doesPlain op (fb f 0) (emb b n g)) f b n mem tz tp tt tb l0 l1 := by
  subst e
  rcases (show k = 10 ∨ k = 11 ∨ k = 12 ∨ k = 13 ∨ k = 14 ∨ k = 15 ∨ k = 16 ∨ k = 17 by omega) with rfl | rfl | rfl | rfl | rfl | rfl | rfl | rfl
  · exact words_10 H h
  · exact words_11 H h
  · exact words_12 H h
  · exact words_13 H h
  · exact words_14 H h
  · exact words_15 H h
  · exact words_16 H h
  · exact words_17 H h
end WORDS
