/-! PURE: instructions on processes (GENERATED, wip/gen/p/24.py) -/
def Res6 (r : Int32 × mF × mF × mF × mF × mF × mF) (m : Int32 × mF × mF) (f : mF) (b : Nat) (n mem tz tp tt tb l0 l1 : mF) : Prop :=
  (r.1 = 1 ∧ ∃ g', m.2 = (fb f 0, emb b n g') ∧ RM r.2.1 r.2.2.1 r.2.2.2.1 r.2.2.2.2.1 r.2.2.2.2.2.1 r.2.2.2.2.2.2 l0 l1 g') ∨ (r.1 = 0 ∧ r.2.2 = (mem, tz, tp, tt, tb) ∧ ∃ g', m.2 = (fb f 1, emb b n g'))
theorem fb1_ne : ¬ (1 : Int32) = 0 := by decide
section PROC
variable {f n g reg mem tz tp tt tb l0 l1 : mF} {b : Nat}
theorem proc_18 (H : Hb f b) (h : RO reg mem tz tp tt tb l0 l1 g) : OX3_performOnProcesses 18 reg mem tz tp tt tb ∧ OX10_doesPlain 18 (fb f 0) (emb b n g) ∧ Res6 (FX3_performOnProcesses 18 reg mem tz tp tt tb) (FX10_doesPlain 18 (fb f 0) (emb b n g)) f b n mem tz tp tt tb l0 l1 := by
  have e6 : g 106 = reg 0 := h.1.2.2.2.2.2.2.1
  have e7 : g 107 = reg 1 := h.1.2.2.2.2.2.2.2.1
  by_cases hw : isWv (reg 0)
  · have hp := wS1 hw
    have hc := (pl_cl hp).1
    have e := lay_ok (n := n) (g := g) (v := reg 1) H hp
    have h2 := RO_m (x := reg 1) hc h
    have e4 : upd g (reg 0 - 1).toNatClampNeg (reg 1) 104 = reg 5 := (pk_un (by omega)).trans h.1.2.2.2.1
    obtain ⟨g', s1, s2, s3, s4, s5, s6, s7⟩ := p_sched (n := n) H h2.2.1 h2.2.2.1 (pMk hw h.1.2.2.2.2.1).1
    have h3 : RO _ _ tz tp tt tb l0 l1 g' := ⟨ROn_c h2.1 (fun k hk => s7 k (by omega)) (fun k a c => s6 k (by omega)), RB0_q h2.2 s4 s5 s7 s6⟩
    refine ⟨by simp (decide := true) only [OX3_performOnProcesses, OX3_startProcess, FX3_startProcess, isW9_1 hw, pl_vp hp, s3, if_true, if_false, true_implies, false_implies, implies_true, not_true_eq_false, not_false_eq_true, and_true, true_and, and_self, or_true, true_or], by simp (decide := true) only [OX10_doesPlain, OX10_begins_, og106 H, og107 H, g106 H, g107 H, e6, e7, isInW_1 hw, needs_ok one0, fb_46, olay H (Or.inl rfl), e, og104 H, g104 H, e4, s2, s1, opop H, pop_e H, if_true, if_false, true_implies, false_implies, implies_true, not_true_eq_false, not_false_eq_true, and_true, true_and, and_self, or_true, true_or], ?_⟩
    refine Or.inl ⟨?_, ?_⟩
    · simp (decide := true) only [FX3_performOnProcesses, FX3_startProcess, isW9_1 hw, if_true, if_false]
    · refine ⟨_, by simp (decide := true) only [FX10_doesPlain, FX10_begins_, g106 H, g107 H, e6, e7, isInW_1 hw, needs_ok one0, fb_46, e, g104 H, e4, s1, pop_e H, if_true, if_false] <;> rfl, ?_⟩
      simp (decide := true) only [FX3_performOnProcesses, FX3_startProcess, isW9_1 hw, if_true, if_false]
      exact (RO_pop (RO_pop h3)).M
  · refine ⟨by simp (decide := true) only [OX3_performOnProcesses, OX3_startProcess, FX3_startProcess, isW9_0 hw, if_true, if_false, true_implies, false_implies, implies_true, not_true_eq_false, not_false_eq_true, and_true, true_and, and_self, or_true, true_or], by simp (decide := true) only [OX10_doesPlain, OX10_begins_, og106 H, og107 H, g106 H, g107 H, e6, e7, isInW_0 hw, needs_bad, fb_46, fb1_ne, if_true, if_false, true_implies, false_implies, implies_true, not_true_eq_false, not_false_eq_true, and_true, true_and, and_self, or_true, true_or], ?_⟩
    refine Or.inr ⟨?_, ?_, g, by simp (decide := true) only [FX10_doesPlain, FX10_begins_, g106 H, g107 H, e6, e7, isInW_0 hw, needs_bad, fb_46, fb1_ne, if_true, if_false] <;> rfl⟩
    · simp (decide := true) only [FX3_performOnProcesses, FX3_startProcess, isW9_0 hw, if_true, if_false]
    · simp (decide := true) only [FX3_performOnProcesses, FX3_startProcess, isW9_0 hw, if_true, if_false]
theorem proc_19 (H : Hb f b) (h : RO reg mem tz tp tt tb l0 l1 g) : OX3_performOnProcesses 19 reg mem tz tp tt tb ∧ OX10_doesPlain 19 (fb f 0) (emb b n g) ∧ Res6 (FX3_performOnProcesses 19 reg mem tz tp tt tb) (FX10_doesPlain 19 (fb f 0) (emb b n g)) f b n mem tz tp tt tb l0 l1 := by
  have e6 : g 106 = reg 0 := h.1.2.2.2.2.2.2.1
  have e7 : g 107 = reg 1 := h.1.2.2.2.2.2.2.2.1
  by_cases hp : isPl (reg 0 + 1)
  · have hc := (pl_cl hp).1
    have ea := at_ok (n := n) (g := g) H hp
    have em : g (reg 0 + 1).toNatClampNeg = mem (reg 0 + 1).toNatClampNeg := h.2.1 _ hc
    have el := fun v => lay_ok (n := n) (g := g) (v := v) H hp
    have h2 := fun x => RO_m (x := x) hc h
    by_cases c : mem (reg 0 + 1).toNatClampNeg - 1 = 0
    · by_cases hw : isWv (reg 0)
      · have hw2 := wPl hw
        have h3 := RO_I (x := upd mem (reg 0 + 1).toNatClampNeg (mem (reg 0 + 1).toNatClampNeg - 1) (reg 0).toNatClampNeg) (RO_W hw (h2 (mem (reg 0 + 1).toNatClampNeg - 1)))
        have ea2 : FX10_at (reg 0) (fb f 0) (emb b n (upd (upd g (reg 0 + 1).toNatClampNeg (mem (reg 0 + 1).toNatClampNeg - 1)) 103 (reg 0))) = (upd mem (reg 0 + 1).toNatClampNeg (mem (reg 0 + 1).toNatClampNeg - 1) (reg 0).toNatClampNeg, fb f 0) := by
          rw [at_ok H hw2, pk_un (by have := (pl_cl hw2).1; omega)]
          rw [(h2 (mem (reg 0 + 1).toNatClampNeg - 1)).2.1 _ (pl_cl hw2).1]
        rw [c] at ea2 h3
        refine ⟨by simp (decide := true) only [OX3_performOnProcesses, OX3_endProcess, FX3_endProcess, isPlace9_1 hp, pl_vp hp, c, isW9_1 hw, pl_vp hw2, if_true, if_false, true_implies, false_implies, implies_true, not_true_eq_false, not_false_eq_true, and_true, true_and, and_self, or_true, true_or], by simp (decide := true) only [OX10_doesPlain, OX10_ends, og106 H, og107 H, g106 H, g107 H, e6, e7, oat H (Or.inl rfl), ea, em, olay H (Or.inl rfl), el, c, isInW_1 hw, needs_ok one0, os103 H, s103 H, ea2, os105 H, s105 H, oclears H, if_true, if_false, true_implies, false_implies, implies_true, not_true_eq_false, not_false_eq_true, and_true, true_and, and_self, or_true, true_or], ?_⟩
        refine Or.inl ⟨?_, ?_⟩
        · simp (decide := true) only [FX3_performOnProcesses, FX3_endProcess, isPlace9_1 hp, c, isW9_1 hw, if_true, if_false]
        · refine ⟨_, by simp (decide := true) only [FX10_doesPlain, FX10_ends, g106 H, g107 H, e6, e7, ea, em, el, c, isInW_1 hw, needs_ok one0, s103 H, ea2, s105 H, clears_e H, if_true, if_false] <;> rfl, ?_⟩
          simp (decide := true) only [FX3_performOnProcesses, FX3_endProcess, isPlace9_1 hp, c, isW9_1 hw, if_true, if_false]
          exact (RO_clear h3).M
      · have ho : ∀ m, OX10_at (reg 0) (fb f 1) m = True := fun m => oat H (Or.inr rfl)
        have ha : ∀ G, (FX10_at (reg 0) (fb f 1) (emb b n G)).2 = fb f 1 := fun G => at_1 _
        refine ⟨by simp (decide := true) only [OX3_performOnProcesses, OX3_endProcess, FX3_endProcess, isPlace9_1 hp, pl_vp hp, c, isW9_0 hw, if_true, if_false, true_implies, false_implies, implies_true, not_true_eq_false, not_false_eq_true, and_true, true_and, and_self, or_true, true_or], by simp (decide := true) only [OX10_doesPlain, OX10_ends, og106 H, og107 H, g106 H, g107 H, e6, e7, oat H (Or.inl rfl), ea, em, olay H (Or.inl rfl), el, c, isInW_0 hw, needs_bad, os103 H, s103 H, ho, ha, os105 H, s105 H, oclears H, if_true, if_false, true_implies, false_implies, implies_true, not_true_eq_false, not_false_eq_true, and_true, true_and, and_self, or_true, true_or], ?_⟩
        refine Or.inr ⟨?_, ?_, _, by simp (decide := true) only [FX10_doesPlain, FX10_ends, g106 H, g107 H, e6, e7, ea, em, el, c, isInW_0 hw, needs_bad, s103 H, ha, s105 H, clears_e H, if_true, if_false] <;> rfl⟩
        · simp (decide := true) only [FX3_performOnProcesses, FX3_endProcess, isPlace9_1 hp, c, isW9_0 hw, if_true, if_false]
        · simp (decide := true) only [FX3_performOnProcesses, FX3_endProcess, isPlace9_1 hp, c, isW9_0 hw, if_true, if_false]
    · have h3 := RM_off (h2 (mem (reg 0 + 1).toNatClampNeg - 1))
      refine ⟨by simp (decide := true) only [OX3_performOnProcesses, OX3_endProcess, FX3_endProcess, isPlace9_1 hp, pl_vp hp, c, if_true, if_false, true_implies, false_implies, implies_true, not_true_eq_false, not_false_eq_true, and_true, true_and, and_self, or_true, true_or], by simp (decide := true) only [OX10_doesPlain, OX10_ends, og106 H, og107 H, g106 H, g107 H, e6, e7, oat H (Or.inl rfl), ea, em, olay H (Or.inl rfl), el, c, os102 H, if_true, if_false, true_implies, false_implies, implies_true, not_true_eq_false, not_false_eq_true, and_true, true_and, and_self, or_true, true_or], ?_⟩
      refine Or.inl ⟨?_, ?_⟩
      · simp (decide := true) only [FX3_performOnProcesses, FX3_endProcess, isPlace9_1 hp, c, if_true, if_false]
      · refine ⟨_, by simp (decide := true) only [FX10_doesPlain, FX10_ends, g106 H, g107 H, e6, e7, ea, em, el, c, s102 H, if_true, if_false] <;> rfl, ?_⟩
        simp (decide := true) only [FX3_performOnProcesses, FX3_endProcess, isPlace9_1 hp, c, if_true, if_false]
        exact h3
  · have ea := at_no (f := f) (b := b) (n := n) (g := g) (z := 0) hp
    have el := lay_no (f := f) (b := b) (n := n) (g := g) (z := 1) (v := 0 - 1) hp
    have c : ¬ (0 : Int32) - 1 = 0 := by decide
    refine ⟨by simp (decide := true) only [OX3_performOnProcesses, OX3_endProcess, FX3_endProcess, isPlace9_0 hp, if_true, if_false, true_implies, false_implies, implies_true, not_true_eq_false, not_false_eq_true, and_true, true_and, and_self, or_true, true_or], by simp (decide := true) only [OX10_doesPlain, OX10_ends, og106 H, og107 H, g106 H, g107 H, e6, e7, oat H (Or.inl rfl), ea, olay H (Or.inr rfl), el, c, os102 H, if_true, if_false, true_implies, false_implies, implies_true, not_true_eq_false, not_false_eq_true, and_true, true_and, and_self, or_true, true_or], ?_⟩
    refine Or.inr ⟨?_, ?_, _, by simp (decide := true) only [FX10_doesPlain, FX10_ends, g106 H, g107 H, e6, e7, ea, el, c, s102 H, if_true, if_false] <;> rfl⟩
    · simp (decide := true) only [FX3_performOnProcesses, FX3_endProcess, isPlace9_0 hp, if_true, if_false]
    · simp (decide := true) only [FX3_performOnProcesses, FX3_endProcess, isPlace9_0 hp, if_true, if_false]
theorem proc_20 (H : Hb f b) (h : RO reg mem tz tp tt tb l0 l1 g) : OX3_performOnProcesses 20 reg mem tz tp tt tb ∧ OX10_doesPlain 20 (fb f 0) (emb b n g) ∧ Res6 (FX3_performOnProcesses 20 reg mem tz tp tt tb) (FX10_doesPlain 20 (fb f 0) (emb b n g)) f b n mem tz tp tt tb l0 l1 := by
  obtain ⟨o1, o2⟩ := RM_goOff h
  refine ⟨by simp (decide := true) only [OX3_performOnProcesses, o1, if_true, if_false, true_implies, false_implies, implies_true, not_true_eq_false, not_false_eq_true, and_true, true_and, and_self, or_true, true_or], by simp (decide := true) only [OX10_doesPlain, og106 H, og107 H, ooff H (Or.inl rfl), if_true, if_false, true_implies, false_implies, implies_true, not_true_eq_false, not_false_eq_true, and_true, true_and, and_self, or_true, true_or], ?_⟩
  refine Or.inl ⟨by simp (decide := true) only [FX3_performOnProcesses, if_true, if_false], _, by simp (decide := true) only [FX10_doesPlain, g106 H, g107 H, off_e H h.1, if_true, if_false] <;> rfl, ?_⟩
  simp (decide := true) only [FX3_performOnProcesses, if_true, if_false]
  exact o2
theorem proc_21 (H : Hb f b) (h : RO reg mem tz tp tt tb l0 l1 g) : OX3_performOnProcesses 21 reg mem tz tp tt tb ∧ OX10_doesPlain 21 (fb f 0) (emb b n g) ∧ Res6 (FX3_performOnProcesses 21 reg mem tz tp tt tb) (FX10_doesPlain 21 (fb f 0) (emb b n g)) f b n mem tz tp tt tb l0 l1 := by
  have e6 : g 106 = reg 0 := h.1.2.2.2.2.2.2.1
  by_cases hp : isP (reg 0)
  · obtain ⟨g', s1, s2, s3, s4, s5, s6, s7⟩ := p_sched (n := n) H h.2.1 h.2.2.1 hp
    have h3 : RO _ _ tz tp tt tb l0 l1 g' := ⟨ROn_c h.1 (fun k hk => s7 k (by omega)) (fun k a c => s6 k (by omega)), RB0_q h.2 s4 s5 s7 s6⟩
    refine ⟨by simp (decide := true) only [OX3_performOnProcesses, OX3_runProcess, FX3_runProcess, isProc9_1 hp, s3, if_true, if_false, true_implies, false_implies, implies_true, not_true_eq_false, not_false_eq_true, and_true, true_and, and_self, or_true, true_or], by simp (decide := true) only [OX10_doesPlain, og106 H, og107 H, g106 H, e6, s2, s1, opop H, if_true, if_false, true_implies, false_implies, implies_true, not_true_eq_false, not_false_eq_true, and_true, true_and, and_self, or_true, true_or], ?_⟩
    refine Or.inl ⟨by simp (decide := true) only [FX3_performOnProcesses, FX3_runProcess, isProc9_1 hp, if_true, if_false], _, by simp (decide := true) only [FX10_doesPlain, g106 H, e6, s1, pop_e H, if_true, if_false] <;> rfl, ?_⟩
    simp (decide := true) only [FX3_performOnProcesses, FX3_runProcess, isProc9_1 hp, if_true, if_false]
    exact (RO_pop h3).M
  · obtain ⟨q1, q2⟩ := sched_no (f := f) (z := 0) (m := emb b n g) hp
    refine ⟨by simp (decide := true) only [OX3_performOnProcesses, OX3_runProcess, FX3_runProcess, isProc9_0 hp, if_true, if_false, true_implies, false_implies, implies_true, not_true_eq_false, not_false_eq_true, and_true, true_and, and_self, or_true, true_or], by simp (decide := true) only [OX10_doesPlain, og106 H, og107 H, g106 H, e6, q1, q2, opop H, if_true, if_false, true_implies, false_implies, implies_true, not_true_eq_false, not_false_eq_true, and_true, true_and, and_self, or_true, true_or], ?_⟩
    refine Or.inr ⟨?_, ?_, _, by simp (decide := true) only [FX10_doesPlain, g106 H, e6, q2, pop_e H, if_true, if_false] <;> rfl⟩
    · simp (decide := true) only [FX3_performOnProcesses, FX3_runProcess, isProc9_0 hp, if_true, if_false]
    · simp (decide := true) only [FX3_performOnProcesses, FX3_runProcess, isProc9_0 hp, if_true, if_false]
theorem proc_22 (H : Hb f b) (h : RO reg mem tz tp tt tb l0 l1 g) : OX3_performOnProcesses 22 reg mem tz tp tt tb ∧ OX10_doesPlain 22 (fb f 0) (emb b n g) ∧ Res6 (FX3_performOnProcesses 22 reg mem tz tp tt tb) (FX10_doesPlain 22 (fb f 0) (emb b n g)) f b n mem tz tp tt tb l0 l1 := by
  have e4 : g 104 = reg 5 := h.1.2.2.2.1
  refine ⟨by simp (decide := true) only [OX3_performOnProcesses, if_true, if_false, true_implies, false_implies, implies_true, not_true_eq_false, not_false_eq_true, and_true, true_and, and_self, or_true, true_or], by simp (decide := true) only [OX10_doesPlain, og106 H, og107 H, og104 H, opush H, if_true, if_false, true_implies, false_implies, implies_true, not_true_eq_false, not_false_eq_true, and_true, true_and, and_self, or_true, true_or], ?_⟩
  refine Or.inl ⟨by simp (decide := true) only [FX3_performOnProcesses, if_true, if_false], _, by simp (decide := true) only [FX10_doesPlain, g104 H, e4, push_e H, if_true, if_false] <;> rfl, ?_⟩
  simp (decide := true) only [FX3_performOnProcesses, if_true, if_false]
  exact (RO_push h).M
theorem proc_23 (H : Hb f b) (h : RO reg mem tz tp tt tb l0 l1 g) : OX3_performOnProcesses 23 reg mem tz tp tt tb ∧ OX10_doesPlain 23 (fb f 0) (emb b n g) ∧ Res6 (FX3_performOnProcesses 23 reg mem tz tp tt tb) (FX10_doesPlain 23 (fb f 0) (emb b n g)) f b n mem tz tp tt tb l0 l1 := by
  have e4 : g 96 = reg 18 := h.2.2.2.2.1.1
  refine ⟨by simp (decide := true) only [OX3_performOnProcesses, if_true, if_false, true_implies, false_implies, implies_true, not_true_eq_false, not_false_eq_true, and_true, true_and, and_self, or_true, true_or], by simp (decide := true) only [OX10_doesPlain, og106 H, og107 H, og96 H, opush H, if_true, if_false, true_implies, false_implies, implies_true, not_true_eq_false, not_false_eq_true, and_true, true_and, and_self, or_true, true_or], ?_⟩
  refine Or.inl ⟨by simp (decide := true) only [FX3_performOnProcesses, if_true, if_false], _, by simp (decide := true) only [FX10_doesPlain, g96 H, e4, push_e H, if_true, if_false] <;> rfl, ?_⟩
  simp (decide := true) only [FX3_performOnProcesses, if_true, if_false]
  exact (RO_push h).M
/-- one is put in who waits for a time, and is off -/
theorem RM_put {s : Nat} (H : Hb f b) (h : RM reg mem tz tp tt tb l0 l1 g) {g' : mF} {tz' tp' tt' tb' : mF} (hg : ∀ j, j < 117 ∨ 154 ≤ j → g' j = g j) (hT : RT tz' tp' tt' tb' g') : RM reg mem tz' tp' tt' tb' l0 l1 g' := by
  obtain ⟨h1, h2, h3, h4, h5, h6, h7, h8⟩ := h
  refine ⟨?_, RMem_c h2 (fun k hk => hg k (by omega)), RQ_c h3 (fun _ _ _ => rfl) (fun k a c => hg k (by omega)), RRest_c h4 (fun _ _ _ => rfl) (fun k a c => hg k (by omega)), RClk_c h5 (fun _ _ _ => rfl) (fun k a c => hg k (by omega)), hT, RLk_c h7 (fun k a c => hg k (by omega)), RLk_c h8 (fun k a c => hg k (by omega))⟩
  rcases h1 with h1 | h1
  · exact Or.inl ⟨h1.1, (hg 102 (by decide)).trans h1.2⟩
  · exact Or.inr (ROn_c h1 (fun _ _ => rfl) (fun k a c => hg k (by omega)))
theorem lt0_iff {x : Int32} : (0 < x) ↔ ¬ x ≤ 0 := ⟨fun h => lt_no h, fun h => by rcases le_or (x := x) (y := 0) with q | q; exact absurd q h; exact q⟩
theorem proc_24 (H : Hb f b) (h : RO reg mem tz tp tt tb l0 l1 g) : OX3_performOnProcesses 24 reg mem tz tp tt tb ∧ OX10_doesPlain 24 (fb f 0) (emb b n g) ∧ Res6 (FX3_performOnProcesses 24 reg mem tz tp tt tb) (FX10_doesPlain 24 (fb f 0) (emb b n g)) f b n mem tz tp tt tb l0 l1 := by
  have e6 : g 106 = reg 0 := h.1.2.2.2.2.2.2.1
  have e9 : g 96 = reg 18 := h.2.2.2.2.1.1
  by_cases c : reg 18 - reg 0 ≤ 0
  · have c' : ¬ 0 < reg 18 - reg 0 := fun q => lt_no q c
    have eo := off_e (n := n) H h.1
    obtain ⟨o1, o2⟩ := RM_goOff h
    obtain ⟨w1, w2, w3, w4⟩ := own_R h.1
    have hc := (pl_cl (wS1 h.1.1)).1
    have wo : 2 * (upd (upd g (reg 4 - 1).toNatClampNeg (reg 3)) 102 0) 103 + (upd (upd g (reg 4 - 1).toNatClampNeg (reg 3)) 102 0) 104 = FX3_own reg := by
      rw [pk_un (show (103 : Nat) ≠ 102 by decide), pk_un (show (103 : Nat) ≠ _ by omega), pk_un (show (104 : Nat) ≠ 102 by decide), pk_un (show (104 : Nat) ≠ _ by omega)]
      exact w1
    have hT := o2.2.2.2.2.2.1
    by_cases cf : tz 0 < 12
    · obtain ⟨s, hs, h0⟩ : ∃ s, s < 12 ∧ tz 0 = nI s := by
        obtain ⟨s, r1, r2, -⟩ := id hT
        refine ⟨s, ?_, r2⟩
        rw [r2] at cf
        rcases Nat.lt_or_ge s 12 with q | q
        · exact q
        · exact absurd cf (nI_nlt (a := s) (b := 12) q (by omega))
      obtain ⟨p1, p2, g', p3, p4, p5⟩ := p_put (n := n) H hT h0 hs (t := reg 0) (a := 0) w2 (Or.inl rfl)
      have h3 := RM_clear (RM_put (s := s) H o2 p4 p5)
      refine ⟨by simp (decide := true) only [OX3_performOnProcesses, OX3_waitForTime, FX3_waitForTime, after0 c, FX6_isFull, cf, p1, o1, if_true, if_false, true_implies, false_implies, implies_true, not_true_eq_false, not_false_eq_true, and_true, true_and, and_self, or_true, true_or], by simp (decide := true) only [OX10_doesPlain, OX10_waitsTill_, og106 H, og107 H, g106 H, e6, og96 H, g96 H, e9, c', ooff H (Or.inl rfl), eo, oown H, own_e H, wo, p2, p3, oclears H, if_true, if_false, true_implies, false_implies, implies_true, not_true_eq_false, not_false_eq_true, and_true, true_and, and_self, or_true, true_or], ?_⟩
      refine Or.inl ⟨by simp (decide := true) only [FX3_performOnProcesses, FX3_waitForTime, after0 c, FX6_isFull, cf, if_true, if_false], _, by simp (decide := true) only [FX10_doesPlain, FX10_waitsTill_, g106 H, e6, g96 H, e9, c', eo, own_e H, wo, p3, clears_e H, if_true, if_false] <;> rfl, ?_⟩
      simp (decide := true) only [FX3_performOnProcesses, FX3_waitForTime, after0 c, FX6_isFull, cf, if_true, if_false]
      exact h3
    · obtain ⟨p1, p2⟩ := p_putFull (n := n) (z := 0) (p := FX3_own reg) (t := reg 0) (a := 0) hT cf H
      refine ⟨by simp (decide := true) only [OX3_performOnProcesses, OX3_waitForTime, FX3_waitForTime, after0 c, FX6_isFull, cf, if_true, if_false, true_implies, false_implies, implies_true, not_true_eq_false, not_false_eq_true, and_true, true_and, and_self, or_true, true_or], by simp (decide := true) only [OX10_doesPlain, OX10_waitsTill_, og106 H, og107 H, g106 H, e6, og96 H, g96 H, e9, c', ooff H (Or.inl rfl), eo, oown H, own_e H, wo, p1, p2, oclears H, if_true, if_false, true_implies, false_implies, implies_true, not_true_eq_false, not_false_eq_true, and_true, true_and, and_self, or_true, true_or], ?_⟩
      refine Or.inr ⟨?_, ?_, _, by simp (decide := true) only [FX10_doesPlain, FX10_waitsTill_, g106 H, e6, g96 H, e9, c', eo, own_e H, wo, p2, clears_e H, if_true, if_false] <;> rfl⟩
      · simp (decide := true) only [FX3_performOnProcesses, FX3_waitForTime, after0 c, FX6_isFull, cf, if_true, if_false]
      · simp (decide := true) only [FX3_performOnProcesses, FX3_waitForTime, after0 c, FX6_isFull, cf, if_true, if_false]
  · have c' : 0 < reg 18 - reg 0 := lt0_iff.mpr c
    refine ⟨by simp (decide := true) only [OX3_performOnProcesses, OX3_waitForTime, FX3_waitForTime, after1 c, if_true, if_false, true_implies, false_implies, implies_true, not_true_eq_false, not_false_eq_true, and_true, true_and, and_self, or_true, true_or], by simp (decide := true) only [OX10_doesPlain, OX10_waitsTill_, og106 H, og107 H, g106 H, e6, og96 H, g96 H, e9, c', oclears H, if_true, if_false, true_implies, false_implies, implies_true, not_true_eq_false, not_false_eq_true, and_true, true_and, and_self, or_true, true_or], ?_⟩
    refine Or.inl ⟨by simp (decide := true) only [FX3_performOnProcesses, FX3_waitForTime, after1 c, if_true, if_false], _, by simp (decide := true) only [FX10_doesPlain, FX10_waitsTill_, g106 H, e6, g96 H, e9, c', clears_e H, if_true, if_false] <;> rfl, ?_⟩
    simp (decide := true) only [FX3_performOnProcesses, FX3_waitForTime, after1 c, if_true, if_false]
    exact (RO_clear h).M
theorem p_proc (H : Hb f b) (h : RO reg mem tz tp tt tb l0 l1 g) {op : Int32} {k : Nat} (h1 : 18 ≤ k) (h2 : k < 25) (e : op = nI k) : OX3_performOnProcesses op reg mem tz tp tt tb ∧ OX10_doesPlain op (fb f 0) (emb b n g) ∧ Res6 (FX3_performOnProcesses op reg mem tz tp tt tb) (FX10_doesPlain op (fb f 0) (emb b n g)) f b n mem tz tp tt tb l0 l1 := by
  subst e
  rcases (show k = 18 ∨ k = 19 ∨ k = 20 ∨ k = 21 ∨ k = 22 ∨ k = 23 ∨ k = 24 by omega) with rfl | rfl | rfl | rfl | rfl | rfl | rfl
  · exact proc_18 H h
  · exact proc_19 H h
  · exact proc_20 H h
  · exact proc_21 H h
  · exact proc_22 H h
  · exact proc_23 H h
  · exact proc_24 H h
end PROC
