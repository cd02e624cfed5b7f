/-! PURE: queues, who runs (GENERATED, wip/gen/p/21.py) -/
theorem wS1 {w : Int32} (h : isWv w) : isPl (w - 1) := wSub h 1 (by decide)
theorem wS2 {w : Int32} (h : isWv w) : isPl (w - 2) := wSub h 2 (by decide)
theorem wS3 {w : Int32} (h : isWv w) : isPl (w - 3) := wSub h 3 (by decide)
theorem wS4 {w : Int32} (h : isWv w) : isPl (w - 4) := wSub h 4 (by decide)
theorem wS5 {w : Int32} (h : isWv w) : isPl (w - 5) := wSub h 5 (by decide)
theorem one0 : ¬ (1 : Int32) = 0 := by decide
theorem oisP10 {x : Int32} : OX10_isProcess x = True := by
  refine eq_true ?_
  unfold OX10_isProcess FX10_isIn
  dsimp only
  split
  · exact Or.inl rfl
  · split
    · exact Or.inl rfl
    · exact Or.inr rfl
section SCHED
variable {f n g reg mem tz tp tt tb l0 l1 : mF} {b : Nat} {z : Int32}
theorem p_sched (H : Hb f b) (hm : RMem mem g) (hq : RQ reg g) {p : Int32} (hp : isP p) : ∃ g', FX10_schedule p (fb f 0) (emb b n g) = (0, fb f 0, emb b n g') ∧ OX10_schedule p (fb f 0) (emb b n g) ∧ OX3_schedule p reg mem ∧ RMem (FX3_schedule p reg mem).2.2 g' ∧ RQ (FX3_schedule p reg mem).2.1 g' ∧ (∀ k, k = 96 ∨ k = 97 ∨ 102 ≤ k → g' k = g k) ∧ ∀ k, k < 14 ∨ 18 ≤ k → (FX3_schedule p reg mem).2.1 k = reg k := by
  obtain ⟨q1, q2, q3, q4⟩ := hq
  have a1 : (98 : Int32) + 0 = 98 := by decide
  have a2 : (98 : Int32) + 1 = 99 := by decide
  have a3 : (100 : Int32) + 0 = 100 := by decide
  have a4 : (100 : Int32) + 1 = 101 := by decide
  have a5 : ((14 : Int32) + 0).toNatClampNeg = 14 := by decide
  have a6 : ((14 : Int32) + 1).toNatClampNeg = 15 := by decide
  have a7 : ((16 : Int32) + 0).toNatClampNeg = 16 := by decide
  have a8 : ((16 : Int32) + 1).toNatClampNeg = 17 := by decide
  have v1 : vp_in ((14 : Int32) + 0) 20 := by rw [show (14 : Int32) + 0 = nI (14 + 0) by decide]; exact vp_in_nI (by decide) (by decide)
  have v2 : vp_in ((14 : Int32) + 1) 20 := by rw [show (14 : Int32) + 1 = nI (14 + 1) by decide]; exact vp_in_nI (by decide) (by decide)
  have v3 : vp_in ((16 : Int32) + 0) 20 := by rw [show (16 : Int32) + 0 = nI (16 + 0) by decide]; exact vp_in_nI (by decide) (by decide)
  have v4 : vp_in ((16 : Int32) + 1) 20 := by rw [show (16 : Int32) + 1 = nI (16 + 1) by decide]; exact vp_in_nI (by decide) (by decide)
  have hnn := pNN hp
  rcases pQ hp with e | e
  · by_cases c : reg 14 = -1
    · refine ⟨upd (upd g 98 p) 100 p, ?_, ?_, ?_, ?_, ?_, ?_, ?_⟩
      · simp only [FX10_schedule, isProc10_1 hp, needs_ok one0, if_neg one0, e, a1, a2, a3, a4, g98 H, q1, c, if_true, s98 H, s100 H]
      · simp only [OX10_schedule, oisP10, isProc10_1 hp, needs_ok one0, e, a1, a2, a3, a4, og98 H, os98 H, os100 H, g98 H, q1, c, true_and, and_true, implies_true, not_true_eq_false, false_implies, one0, not_false_eq_true]
      · simp only [OX3_schedule, e, a5, a6, a7, a8, v1, v2, v3, v4, c, true_and, and_true, implies_true, not_true_eq_false, false_implies]
      · simp only [FX3_schedule, e, a5, a6, a7, a8, c, if_true]
        exact RMem_c hm (fun k hk => by rw [pk_un (by omega), pk_un (by omega)])
      · simp only [FX3_schedule, e, a5, a6, a7, a8, c, if_true]
        refine ⟨?_, ?_, ?_, ?_⟩ <;> simp only [upd_at]
        all_goals first | assumption | exact fun _ => ⟨rfl, hp⟩ | rfl
      · intro k hk
        rw [pk_un (by omega), pk_un (by omega)]
      · simp only [FX3_schedule, e, a5, a6, a7, a8, c, if_true]
        intro k hk
        rw [pk_un (by omega), pk_un (by omega)]
    · obtain ⟨b1, b2⟩ := q3 c
      have hpl := wS2 (pW b2)
      obtain ⟨c1, c2⟩ := pl_cl hpl
      have c' : ¬ g 98 = -1 := by rw [q1]; exact c
      refine ⟨upd (upd g (reg 16 / 2 - 2).toNatClampNeg p) 100 p, ?_, ?_, ?_, ?_, ?_, ?_, ?_⟩
      · simp only [FX10_schedule, isProc10_1 hp, needs_ok one0, if_neg one0, e, a1, a2, a3, a4, g98 H, g100 H, if_neg c', b1, lay_ok H hpl, s100 H]
      · simp only [OX10_schedule, oisP10, isProc10_1 hp, needs_ok one0, e, a1, a2, a3, a4, og98 H, og100 H, os100 H, g98 H, g100 H, b1, lay_ok H hpl, olay H (Or.inl rfl), c', true_and, and_true, implies_true, not_true_eq_false, false_implies, one0, not_false_eq_true]
      · simp only [OX3_schedule, e, a5, a6, a7, a8, v1, v2, v3, v4, c, isProc9_1 b2, one0, pl_vp hpl, true_and, and_true, implies_true, not_true_eq_false, not_false_eq_true, false_implies]
      · simp only [FX3_schedule, e, a5, a6, a7, a8, if_neg c, isProc9_1 b2, if_neg one0]
        exact RMem_c (RMem_u hm) (fun k hk => pk_un (by omega))
      · simp only [FX3_schedule, e, a5, a6, a7, a8, if_neg c, isProc9_1 b2, if_neg one0]
        have c3 : ∀ j, 96 ≤ j → ¬ j = (reg 16 / 2 - 2).toNatClampNeg := fun j hj => by omega
        refine ⟨?_, ?_, ?_, ?_⟩ <;> simp only [upd_at, if_neg (c3 98 (by decide)), if_neg (c3 99 (by decide)), if_neg (c3 100 (by decide)), if_neg (c3 101 (by decide))]
        all_goals first | assumption | exact fun _ => ⟨rfl, hp⟩ | rfl
      · intro k hk
        rw [pk_un (by omega), pk_un (by omega)]
      · simp only [FX3_schedule, e, a5, a6, a7, a8, if_neg c, isProc9_1 b2, if_neg one0]
        intro k hk
        rw [pk_un (by omega)]
  · by_cases c : reg 15 = -1
    · refine ⟨upd (upd g 99 p) 101 p, ?_, ?_, ?_, ?_, ?_, ?_, ?_⟩
      · simp only [FX10_schedule, isProc10_1 hp, needs_ok one0, if_neg one0, e, a1, a2, a3, a4, g99 H, q2, c, if_true, s99 H, s101 H]
      · simp only [OX10_schedule, oisP10, isProc10_1 hp, needs_ok one0, e, a1, a2, a3, a4, og99 H, os99 H, os101 H, g99 H, q2, c, true_and, and_true, implies_true, not_true_eq_false, false_implies, one0, not_false_eq_true]
      · simp only [OX3_schedule, e, a5, a6, a7, a8, v1, v2, v3, v4, c, true_and, and_true, implies_true, not_true_eq_false, false_implies]
      · simp only [FX3_schedule, e, a5, a6, a7, a8, c, if_true]
        exact RMem_c hm (fun k hk => by rw [pk_un (by omega), pk_un (by omega)])
      · simp only [FX3_schedule, e, a5, a6, a7, a8, c, if_true]
        refine ⟨?_, ?_, ?_, ?_⟩ <;> simp only [upd_at]
        all_goals first | assumption | exact fun _ => ⟨rfl, hp⟩ | rfl
      · intro k hk
        rw [pk_un (by omega), pk_un (by omega)]
      · simp only [FX3_schedule, e, a5, a6, a7, a8, c, if_true]
        intro k hk
        rw [pk_un (by omega), pk_un (by omega)]
    · obtain ⟨b1, b2⟩ := q4 c
      have hpl := wS2 (pW b2)
      obtain ⟨c1, c2⟩ := pl_cl hpl
      have c' : ¬ g 99 = -1 := by rw [q2]; exact c
      refine ⟨upd (upd g (reg 17 / 2 - 2).toNatClampNeg p) 101 p, ?_, ?_, ?_, ?_, ?_, ?_, ?_⟩
      · simp only [FX10_schedule, isProc10_1 hp, needs_ok one0, if_neg one0, e, a1, a2, a3, a4, g99 H, g101 H, if_neg c', b1, lay_ok H hpl, s101 H]
      · simp only [OX10_schedule, oisP10, isProc10_1 hp, needs_ok one0, e, a1, a2, a3, a4, og99 H, og101 H, os101 H, g99 H, g101 H, b1, lay_ok H hpl, olay H (Or.inl rfl), c', true_and, and_true, implies_true, not_true_eq_false, false_implies, one0, not_false_eq_true]
      · simp only [OX3_schedule, e, a5, a6, a7, a8, v1, v2, v3, v4, c, isProc9_1 b2, one0, pl_vp hpl, true_and, and_true, implies_true, not_true_eq_false, not_false_eq_true, false_implies]
      · simp only [FX3_schedule, e, a5, a6, a7, a8, if_neg c, isProc9_1 b2, if_neg one0]
        exact RMem_c (RMem_u hm) (fun k hk => pk_un (by omega))
      · simp only [FX3_schedule, e, a5, a6, a7, a8, if_neg c, isProc9_1 b2, if_neg one0]
        have c3 : ∀ j, 96 ≤ j → ¬ j = (reg 17 / 2 - 2).toNatClampNeg := fun j hj => by omega
        refine ⟨?_, ?_, ?_, ?_⟩ <;> simp only [upd_at, if_neg (c3 98 (by decide)), if_neg (c3 99 (by decide)), if_neg (c3 100 (by decide)), if_neg (c3 101 (by decide))]
        all_goals first | assumption | exact fun _ => ⟨rfl, hp⟩ | rfl
      · intro k hk
        rw [pk_un (by omega), pk_un (by omega)]
      · simp only [FX3_schedule, e, a5, a6, a7, a8, if_neg c, isProc9_1 b2, if_neg one0]
        intro k hk
        rw [pk_un (by omega)]
/-- when one has gone bad: a process is put in somehow, or not -/
theorem sched_1 (H : Hb f b) (p : Int32) : OX10_schedule p (fb f 1) (emb b n g) ∧ ∃ g', FX10_schedule p (fb f 1) (emb b n g) = (0, fb f 1, emb b n g') ∧ ∀ k, 102 ≤ k → g' k = g k := by
  by_cases hp : isP p
  · have a1 : (98 : Int32) + 0 = 98 := by decide
    have a2 : (98 : Int32) + 1 = 99 := by decide
    have a3 : (100 : Int32) + 0 = 100 := by decide
    have a4 : (100 : Int32) + 1 = 101 := by decide
    rcases pQ hp with e | e
    · obtain ⟨g1, e1, e2⟩ := lay_1 (n := n) (g := g) H (g 100 / 2 - 2) p
      constructor
      · simp only [OX10_schedule, oisP10, isProc10_1 hp, needs_1, e, a1, a2, a3, a4, og98 H, og100 H, os98 H, os100 H, g98 H, g100 H, e1, olay H (Or.inr rfl), true_and, and_true, implies_true, one0, not_false_eq_true, false_implies, and_self]
      · by_cases c : g 98 = -1
        · refine ⟨upd (upd g 98 p) 100 p, ?_, fun k hk => by rw [pk_un (by omega), pk_un (by omega)]⟩
          simp only [FX10_schedule, isProc10_1 hp, needs_1, if_neg one0, e, a1, a2, a3, a4, g98 H, c, if_true, s98 H, s100 H]
        · refine ⟨upd g1 100 p, ?_, fun k hk => by rw [pk_un (by omega), e2 k (by omega)]⟩
          simp only [FX10_schedule, isProc10_1 hp, needs_1, if_neg one0, e, a1, a2, a3, a4, g98 H, g100 H, if_neg c, e1, s100 H]
    · obtain ⟨g1, e1, e2⟩ := lay_1 (n := n) (g := g) H (g 101 / 2 - 2) p
      constructor
      · simp only [OX10_schedule, oisP10, isProc10_1 hp, needs_1, e, a1, a2, a3, a4, og99 H, og101 H, os99 H, os101 H, g99 H, g101 H, e1, olay H (Or.inr rfl), true_and, and_true, implies_true, one0, not_false_eq_true, false_implies, and_self]
      · by_cases c : g 99 = -1
        · refine ⟨upd (upd g 99 p) 101 p, ?_, fun k hk => by rw [pk_un (by omega), pk_un (by omega)]⟩
          simp only [FX10_schedule, isProc10_1 hp, needs_1, if_neg one0, e, a1, a2, a3, a4, g99 H, c, if_true, s99 H, s101 H]
        · refine ⟨upd g1 101 p, ?_, fun k hk => by rw [pk_un (by omega), e2 k (by omega)]⟩
          simp only [FX10_schedule, isProc10_1 hp, needs_1, if_neg one0, e, a1, a2, a3, a4, g99 H, g101 H, if_neg c, e1, s101 H]
  · constructor
    · simp only [OX10_schedule, oisP10, isProc10_0 hp, true_and, implies_true, not_true_eq_false, false_implies, and_self]
    · exact ⟨g, by simp only [FX10_schedule, isProc10_0 hp, needs_bad, if_true], fun _ _ => rfl⟩
/-- who isn't a process word -/
theorem sched_no {p : Int32} {m : mF} (hp : ¬ isP p) : OX10_schedule p (fb f z) m ∧ FX10_schedule p (fb f z) m = (0, fb f 1, m) := by
  constructor
  · simp only [OX10_schedule, oisP10, isProc10_0 hp, true_and, implies_true, not_true_eq_false, false_implies, and_self]
  · simp only [FX10_schedule, isProc10_0 hp, needs_bad, if_true]
end SCHED
