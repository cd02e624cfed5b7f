/-! PURE: choosing among guards (GENERATED, wip/gen/p/30.py) -/
def ResG (r : Int32 × mF × mF × mF × mF × mF × mF × mF × mF) (m : Int32 × mF × mF) (f : mF) (b : Nat) (n mem tz tp tt tb l0 l1 : mF) : Prop :=
  (r.1 = 1 ∧ ∃ g', m.2 = (fb f 0, emb b n g') ∧ RM r.2.1 r.2.2.1 r.2.2.2.1 r.2.2.2.2.1 r.2.2.2.2.2.1 r.2.2.2.2.2.2.1 r.2.2.2.2.2.2.2.1 r.2.2.2.2.2.2.2.2 g') ∨ (r.1 = 0 ∧ r.2.2 = (mem, tz, tp, tt, tb, l0, l1) ∧ ∃ g', m.2 = (fb f 1, emb b n g'))
theorem wIdx {x : Int32} (h : isWv x) : (x - 1).toNatClampNeg + 1 = x.toNatClampNeg ∧ (x - 3).toNatClampNeg + 3 = x.toNatClampNeg ∧ (x - 4).toNatClampNeg + 4 = x.toNatClampNeg ∧ (x - 5).toNatClampNeg + 5 = x.toNatClampNeg ∧ x.toNatClampNeg < 96 := by
  obtain ⟨k, h1, h2, rfl⟩ := h
  have e : ∀ c : Nat, c ≤ 5 → (nI k - nI c).toNatClampNeg + c = (nI k).toNatClampNeg := fun c hc => by
    rw [nI_sub (by omega), nI_clamp (by omega), nI_clamp (by omega)]
    omega
  refine ⟨e 1 (by decide), e 3 (by decide), e 4 (by decide), e 5 (by decide), ?_⟩
  rw [nI_clamp (by omega)]
  omega
theorem chan2 {x : Int32} (h : isPl x) : (x < 2 ↔ x ≤ 1) := by
  obtain ⟨k, hk, rfl⟩ := h
  constructor
  · intro q
    rcases Nat.lt_or_ge k 2 with r | r
    · exact nI_le (b := 1) (by omega) (by decide)
    · exact absurd q (nI_nlt (a := k) (b := 2) r (by omega))
  · intro q
    rcases Nat.lt_or_ge k 2 with r | r
    · exact nI_lt (b := 2) r (by decide)
    · exact absurd q (nI_ge (a := 1) (b := k) r (by omega))
theorem chanIn_1 {x : Int32} (h : isPl x) (h2 : ¬ x ≤ 1) : FX3_isChannelIn x = 1 := by
  have h3 : ¬ x < 2 := fun q => h2 ((chan2 h).mp q)
  simp (decide := true) only [FX3_isChannelIn, isPlace9_1 h, h3, if_true, if_false]
theorem chanIn_0 {x : Int32} (h : isPl x) (h2 : x ≤ 1) : FX3_isChannelIn x = 0 := by
  have h3 : x < 2 := (chan2 h).mpr h2
  simp (decide := true) only [FX3_isChannelIn, isPlace9_1 h, h3, if_true, if_false]
theorem chanIn_n {x : Int32} (h : ¬ isPl x) : FX3_isChannelIn x = 0 := by
  simp (decide := true) only [FX3_isChannelIn, isPlace9_0 h, if_true, if_false]
theorem pl23 {x : Int32} (h : isPl x) (h4 : ¬ (4 : Int32) ≤ x) (h1 : ¬ x ≤ 1) : x = 2 ∨ x = 3 := by
  rcases pl4 h h4 with rfl | rfl | rfl | rfl
  · exact absurd (by decide) h1
  · exact absurd (by decide) h1
  · exact Or.inl rfl
  · exact Or.inr rfl
theorem RO_n0 {reg mem tz tp tt tb l0 l1 g : mF} {x : Int32} (h : RO reg mem tz tp tt tb l0 l1 g) (hx : ¬ x = -1 → isP x) : RO reg mem tz tp tt tb (upd l0 9 x) l1 (upd g 163 x) := by
  refine ⟨ROn_c h.1 (fun _ _ => rfl) (fun k a c => pk_un (by omega)), RB0_l0 h.2 (fun k hk => pk_un (by omega)) ?_⟩
  obtain ⟨h1, h2, h3, h4⟩ := h.2.2.2.2.2.2.1
  refine ⟨?_, ?_, ?_, ?_⟩
  · simp (decide := true) only [upd_at, if_true, if_false, Nat.reduceAdd]
    exact h1
  · simp (decide := true) only [upd_at, if_true, if_false, Nat.reduceAdd]
    exact h2
  · simp (decide := true) only [upd_at, if_true, if_false, Nat.reduceAdd]
    exact h3
  · simp (decide := true) only [upd_at, if_true, if_false, Nat.reduceAdd, true_and]
    exact hx
theorem RO_n1 {reg mem tz tp tt tb l0 l1 g : mF} {x : Int32} (h : RO reg mem tz tp tt tb l0 l1 g) (hx : ¬ x = -1 → isP x) : RO reg mem tz tp tt tb l0 (upd l1 9 x) (upd g 173 x) := by
  refine ⟨ROn_c h.1 (fun _ _ => rfl) (fun k a c => pk_un (by omega)), RB0_l1 h.2 (fun k hk => pk_un (by omega)) ?_⟩
  obtain ⟨h1, h2, h3, h4⟩ := h.2.2.2.2.2.2.2
  refine ⟨?_, ?_, ?_, ?_⟩
  · simp (decide := true) only [upd_at, if_true, if_false, Nat.reduceAdd]
    exact h1
  · simp (decide := true) only [upd_at, if_true, if_false, Nat.reduceAdd]
    exact h2
  · simp (decide := true) only [upd_at, if_true, if_false, Nat.reduceAdd]
    exact h3
  · simp (decide := true) only [upd_at, if_true, if_false, Nat.reduceAdd, true_and]
    exact hx
theorem RO_put_ {reg mem tz tp tt tb l0 l1 g g' tz' tp' tt' tb' : mF} (h : RO reg mem tz tp tt tb l0 l1 g) (hg : ∀ j, j < 117 ∨ 154 ≤ j → g' j = g j) (hT : RT tz' tp' tt' tb' g') : RO reg mem tz' tp' tt' tb' l0 l1 g' := by
  obtain ⟨h0, h1, h2, h3, h4, h5, h6, h7⟩ := h
  exact ⟨ROn_c h0 (fun _ _ => rfl) (fun k a c => hg k (by omega)), RMem_c h1 (fun k hk => hg k (by omega)), RQ_c h2 (fun _ _ _ => rfl) (fun k a c => hg k (by omega)), RRest_c h3 (fun _ _ _ => rfl) (fun k a c => hg k (by omega)), RClk_c h4 (fun _ _ _ => rfl) (fun k a c => hg k (by omega)), hT, RLk_c h6 (fun k a c => hg k (by omega)), RLk_c h7 (fun k a c => hg k (by omega))⟩
section GRD
variable {f n g reg mem tz tp tt tb l0 l1 : mF} {b : Nat}
theorem off_1 (H : Hb f b) : ∃ g', FX10_off (fb f 1) (emb b n g) = (0, fb f 1, emb b n g') := by
  obtain ⟨g', h1, -⟩ := lay_1 (n := n) (g := g) H (g 103 - 1) (g 105)
  refine ⟨upd g' 102 0, ?_⟩
  simp only [FX10_off, g103 H, g105 H]
  rw [h1]
  simp only [s102 H]
theorem p_fire0 (H : Hb f b) (h : RO reg mem tz tp tt tb l0 l1 g) : OX3_fire 0 reg mem ∧ OX10_fires 0 (fb f 0) (emb b n g) ∧ ∃ g', FX10_fires 0 (fb f 0) (emb b n g) = (0, fb f 0, emb b n g') ∧ RO (FX3_fire 0 reg mem).2.1 (FX3_fire 0 reg mem).2.2 tz tp tt tb l0 l1 g' ∧ (FX3_fire 0 reg mem).2.1 2 = reg 2 := by
  refine ⟨by simp (decide := true) only [OX3_fire, if_true, if_false, true_implies, false_implies, implies_true, not_true_eq_false, not_false_eq_true, and_true, true_and, and_self, or_true, true_or], by simp (decide := true) only [OX10_fires, os106 H, if_true, if_false, true_implies, false_implies, implies_true, not_true_eq_false, not_false_eq_true, and_true, true_and, and_self, or_true, true_or], upd g 106 0, by simp (decide := true) only [FX10_fires, s106 H, if_true, if_false], ?_⟩
  simp (decide := true) only [FX3_fire, if_true, if_false]
  exact ⟨RO_A h, pk_un (by decide)⟩
theorem p_fire1 (H : Hb f b) (h : RO reg mem tz tp tt tb l0 l1 g) : OX3_fire 1 reg mem ∧ OX10_fires 1 (fb f 0) (emb b n g) ∧ ∃ g', FX10_fires 1 (fb f 0) (emb b n g) = (0, fb f 0, emb b n g') ∧ RO (FX3_fire 1 reg mem).2.1 (FX3_fire 1 reg mem).2.2 tz tp tt tb l0 l1 g' ∧ (FX3_fire 1 reg mem).2.1 2 = reg 2 := by
  have e6 : g 106 = reg 0 := h.1.2.2.2.2.2.2.1
  have e3 : g 103 = reg 4 := h.1.2.2.1
  have hp := wPl h.1.1
  have et := at_ok (n := n) (g := g) H hp
  have em := h.2.1 _ (pl_cl hp).1
  have el := lay_ok (n := n) (g := g) (v := reg 0) H hp
  by_cases c : mem (reg 4).toNatClampNeg = -1
  · refine ⟨by simp (decide := true) only [OX3_fire, pl_vp hp, if_true, if_false, true_implies, false_implies, implies_true, not_true_eq_false, not_false_eq_true, and_true, true_and, and_self, or_true, true_or], by simp (decide := true) only [OX10_fires, og103 H, g103 H, e3, oat H (Or.inl rfl), et, em, c, og106 H, g106 H, e6, olay H (Or.inl rfl), el, os106 H, if_true, if_false, true_implies, false_implies, implies_true, not_true_eq_false, not_false_eq_true, and_true, true_and, and_self, or_true, true_or], _, by simp (decide := true) only [FX10_fires, g103 H, e3, et, em, c, g106 H, e6, el, s106 H, if_true, if_false] <;> rfl, ?_⟩
    simp (decide := true) only [FX3_fire, c, if_true, if_false]
    exact ⟨RO_A (RO_m (pl_cl hp).1 h), pk_un (by decide)⟩
  · refine ⟨by simp (decide := true) only [OX3_fire, pl_vp hp, if_true, if_false, true_implies, false_implies, implies_true, not_true_eq_false, not_false_eq_true, and_true, true_and, and_self, or_true, true_or], by simp (decide := true) only [OX10_fires, og103 H, g103 H, e3, oat H (Or.inl rfl), et, em, c, og106 H, g106 H, e6, olay H (Or.inl rfl), el, os106 H, if_true, if_false, true_implies, false_implies, implies_true, not_true_eq_false, not_false_eq_true, and_true, true_and, and_self, or_true, true_or], _, by simp (decide := true) only [FX10_fires, g103 H, e3, et, em, c, g106 H, e6, el, s106 H, if_true, if_false] <;> rfl, ?_⟩
    simp (decide := true) only [FX3_fire, c, if_true, if_false]
    exact ⟨RO_A h, pk_un (by decide)⟩
theorem guard_27 (H : Hb f b) (h : RO reg mem tz tp tt tb l0 l1 g) : OX3_performOnGuards 27 reg mem tz tp tt tb l0 l1 ∧ OX10_doesAlt 27 (fb f 0) (emb b n g) ∧ ResG (FX3_performOnGuards 27 reg mem tz tp tt tb l0 l1) (FX10_doesAlt 27 (fb f 0) (emb b n g)) f b n mem tz tp tt tb l0 l1 := by
  have e6 : g 106 = reg 0 := h.1.2.2.2.2.2.2.1
  have e7 : g 107 = reg 1 := h.1.2.2.2.2.2.2.2.1
  have e8 : g 108 = reg 2 := h.1.2.2.2.2.2.2.2.2.1
  have e3 : g 103 = reg 4 := h.1.2.2.1
  have hw := h.1.1
  have hp0 := wPl hw
  have hp3 := wS3 hw
  have hp4 := wS4 hw
  have hp5 := wS5 hw
  obtain ⟨i1, i3, i4, i5, i6⟩ := wIdx hw
  have el := lay_ok (n := n) (g := g) (v := -2) H hp3
  refine ⟨by simp (decide := true) only [OX3_performOnGuards, pl_vp hp3, if_true, if_false, true_implies, false_implies, implies_true, not_true_eq_false, not_false_eq_true, and_true, true_and, and_self, or_true, true_or], by simp (decide := true) only [OX10_doesAlt, og106 H, og107 H, og108 H, og103 H, g106 H, g107 H, g108 H, g103 H, e6, e7, e8, e3, olay H (Or.inl rfl), if_true, if_false, true_implies, false_implies, implies_true, not_true_eq_false, not_false_eq_true, and_true, true_and, and_self, or_true, true_or], ?_⟩
  refine Or.inl ⟨by simp (decide := true) only [FX3_performOnGuards, if_true, if_false], _, by simp (decide := true) only [FX10_doesAlt, g106 H, g107 H, g108 H, g103 H, e6, e7, e8, e3, el, if_true, if_false] <;> rfl, ?_⟩
  simp (decide := true) only [FX3_performOnGuards, if_true, if_false]
  exact (RO_m (pl_cl hp3).1 h).M
theorem guard_28 (H : Hb f b) (h : RO reg mem tz tp tt tb l0 l1 g) : OX3_performOnGuards 28 reg mem tz tp tt tb l0 l1 ∧ OX10_doesAlt 28 (fb f 0) (emb b n g) ∧ ResG (FX3_performOnGuards 28 reg mem tz tp tt tb l0 l1) (FX10_doesAlt 28 (fb f 0) (emb b n g)) f b n mem tz tp tt tb l0 l1 := by
  have e6 : g 106 = reg 0 := h.1.2.2.2.2.2.2.1
  have e7 : g 107 = reg 1 := h.1.2.2.2.2.2.2.2.1
  have e8 : g 108 = reg 2 := h.1.2.2.2.2.2.2.2.2.1
  have e3 : g 103 = reg 4 := h.1.2.2.1
  have hw := h.1.1
  have hp0 := wPl hw
  have hp3 := wS3 hw
  have hp4 := wS4 hw
  have hp5 := wS5 hw
  obtain ⟨i1, i3, i4, i5, i6⟩ := wIdx hw
  have el := lay_ok (n := n) (g := g) (v := -1) H hp0
  have h2 := RO_m (x := -1) (pl_cl hp0).1 h
  have et := at_ok (n := n) (g := upd g (reg 4).toNatClampNeg (-1)) H hp3
  have em := h2.2.1 _ (pl_cl hp3).1
  by_cases c : upd mem (reg 4).toNatClampNeg (-1) (reg 4 - 3).toNatClampNeg = -4
  · skip
    refine ⟨by simp (decide := true) only [OX3_performOnGuards, OX3_waitForGuard, FX3_waitForGuard, pl_vp hp0, pl_vp hp3, c, if_true, if_false, true_implies, false_implies, implies_true, not_true_eq_false, not_false_eq_true, and_true, true_and, and_self, or_true, true_or], by simp (decide := true) only [OX10_doesAlt, og106 H, og107 H, og108 H, og103 H, g106 H, g107 H, g108 H, g103 H, e6, e7, e8, e3, OX10_waitsForOne, olay H (Or.inl rfl), oat H (Or.inl rfl), el, et, em, c, oclears H, ooff H (Or.inl rfl), if_true, if_false, true_implies, false_implies, implies_true, not_true_eq_false, not_false_eq_true, and_true, true_and, and_self, or_true, true_or], ?_⟩
    refine Or.inl ⟨by simp (decide := true) only [FX3_performOnGuards, FX3_waitForGuard, c, if_true, if_false], _, by simp (decide := true) only [FX10_doesAlt, g106 H, g107 H, g108 H, g103 H, e6, e7, e8, e3, FX10_waitsForOne, el, et, em, c, clears_e H, if_true, if_false] <;> rfl, ?_⟩
    simp (decide := true) only [FX3_performOnGuards, FX3_waitForGuard, c, if_true, if_false]
    exact (RO_clear h2).M
  · have el2 := lay_ok (n := n) (g := upd g (reg 4).toNatClampNeg (-1)) (v := -3) H hp3
    have h3 := RO_m (x := -3) (pl_cl hp3).1 h2
    have eo := off_e (n := n) H h3.1
    obtain ⟨o1, o2⟩ := RM_goOff h3
    refine ⟨by simp (decide := true) only [OX3_performOnGuards, OX3_waitForGuard, FX3_waitForGuard, pl_vp hp0, pl_vp hp3, c, o1, if_true, if_false, true_implies, false_implies, implies_true, not_true_eq_false, not_false_eq_true, and_true, true_and, and_self, or_true, true_or], by simp (decide := true) only [OX10_doesAlt, og106 H, og107 H, og108 H, og103 H, g106 H, g107 H, g108 H, g103 H, e6, e7, e8, e3, OX10_waitsForOne, olay H (Or.inl rfl), oat H (Or.inl rfl), el, et, em, c, oclears H, ooff H (Or.inl rfl), el2, eo, if_true, if_false, true_implies, false_implies, implies_true, not_true_eq_false, not_false_eq_true, and_true, true_and, and_self, or_true, true_or], ?_⟩
    refine Or.inl ⟨by simp (decide := true) only [FX3_performOnGuards, FX3_waitForGuard, c, if_true, if_false], _, by simp (decide := true) only [FX10_doesAlt, g106 H, g107 H, g108 H, g103 H, e6, e7, e8, e3, FX10_waitsForOne, el, et, em, c, el2, eo, clears_e H, if_true, if_false] <;> rfl, ?_⟩
    simp (decide := true) only [FX3_performOnGuards, FX3_waitForGuard, c, if_true, if_false]
    exact RM_clear o2
theorem guard_29 (H : Hb f b) (h : RO reg mem tz tp tt tb l0 l1 g) : OX3_performOnGuards 29 reg mem tz tp tt tb l0 l1 ∧ OX10_doesAlt 29 (fb f 0) (emb b n g) ∧ ResG (FX3_performOnGuards 29 reg mem tz tp tt tb l0 l1) (FX10_doesAlt 29 (fb f 0) (emb b n g)) f b n mem tz tp tt tb l0 l1 := by
  have e6 : g 106 = reg 0 := h.1.2.2.2.2.2.2.1
  have e7 : g 107 = reg 1 := h.1.2.2.2.2.2.2.2.1
  have e8 : g 108 = reg 2 := h.1.2.2.2.2.2.2.2.2.1
  have e3 : g 103 = reg 4 := h.1.2.2.1
  have hw := h.1.1
  have hp0 := wPl hw
  have hp3 := wS3 hw
  have hp4 := wS4 hw
  have hp5 := wS5 hw
  obtain ⟨i1, i3, i4, i5, i6⟩ := wIdx hw
  have et := at_ok (n := n) (g := g) H hp0
  have em := h.2.1 _ (pl_cl hp0).1
  refine ⟨by simp (decide := true) only [OX3_performOnGuards, pl_vp hp0, if_true, if_false, true_implies, false_implies, implies_true, not_true_eq_false, not_false_eq_true, and_true, true_and, and_self, or_true, true_or], by simp (decide := true) only [OX10_doesAlt, og106 H, og107 H, og108 H, og103 H, g106 H, g107 H, g108 H, g103 H, e6, e7, e8, e3, oat H (Or.inl rfl), et, em, os105 H, if_true, if_false, true_implies, false_implies, implies_true, not_true_eq_false, not_false_eq_true, and_true, true_and, and_self, or_true, true_or], ?_⟩
  refine Or.inl ⟨by simp (decide := true) only [FX3_performOnGuards, if_true, if_false], _, by simp (decide := true) only [FX10_doesAlt, g106 H, g107 H, g108 H, g103 H, e6, e7, e8, e3, et, em, s105 H, if_true, if_false] <;> rfl, ?_⟩
  simp (decide := true) only [FX3_performOnGuards, if_true, if_false]
  exact (RO_I h).M
theorem guard_30 (H : Hb f b) (h : RO reg mem tz tp tt tb l0 l1 g) : OX3_performOnGuards 30 reg mem tz tp tt tb l0 l1 ∧ OX10_doesAlt 30 (fb f 0) (emb b n g) ∧ ResG (FX3_performOnGuards 30 reg mem tz tp tt tb l0 l1) (FX10_doesAlt 30 (fb f 0) (emb b n g)) f b n mem tz tp tt tb l0 l1 := by
  have e6 : g 106 = reg 0 := h.1.2.2.2.2.2.2.1
  have e7 : g 107 = reg 1 := h.1.2.2.2.2.2.2.2.1
  have e8 : g 108 = reg 2 := h.1.2.2.2.2.2.2.2.2.1
  have e3 : g 103 = reg 4 := h.1.2.2.1
  have hw := h.1.1
  have hp0 := wPl hw
  have hp3 := wS3 hw
  have hp4 := wS4 hw
  have hp5 := wS5 hw
  obtain ⟨i1, i3, i4, i5, i6⟩ := wIdx hw
  have b0 : ∀ y m, OX10_enables_b2 y 0 (fb f 0) m ∧ FX10_enables_b2 y 0 (fb f 0) m = (0, fb f 1, m) := fun y m => ⟨by simp (decide := true) only [OX10_enables_b2, needs_bad, fb_46, if_true, if_false, true_implies, false_implies, implies_true, not_true_eq_false, not_false_eq_true, and_true, true_and, and_self, or_true, true_or], by simp (decide := true) only [FX10_enables_b2, needs_bad, fb_46, if_true, if_false]⟩
  obtain ⟨w1, w2, -⟩ := own_R h.1
  rw [e3] at w1
  by_cases a0 : reg 0 = 0
  · skip
    refine ⟨by simp (decide := true) only [OX3_performOnGuards, OX3_enableChannel, FX3_enableChannel, a0, if_true, if_false, true_implies, false_implies, implies_true, not_true_eq_false, not_false_eq_true, and_true, true_and, and_self, or_true, true_or], by simp (decide := true) only [OX10_doesAlt, og106 H, og107 H, og108 H, og103 H, g106 H, g107 H, g108 H, g103 H, e6, e7, e8, e3, a0, os107 H, if_true, if_false, true_implies, false_implies, implies_true, not_true_eq_false, not_false_eq_true, and_true, true_and, and_self, or_true, true_or], ?_⟩
    refine Or.inl ⟨by simp (decide := true) only [FX3_performOnGuards, FX3_enableChannel, a0, if_true, if_false], _, by simp (decide := true) only [FX10_doesAlt, g106 H, g107 H, g108 H, g103 H, e6, e7, e8, e3, a0, s107 H, if_true, if_false] <;> rfl, ?_⟩
    simp (decide := true) only [FX3_performOnGuards, FX3_enableChannel, a0, if_true, if_false]
    exact (RO_B h).M
  · by_cases hx : isPl (reg 1)
    · by_cases x1 : reg 1 ≤ 1
      · skip
        refine ⟨by simp (decide := true) only [OX3_performOnGuards, OX3_enableChannel, FX3_enableChannel, a0, chanIn_0 hx x1, if_true, if_false, true_implies, false_implies, implies_true, not_true_eq_false, not_false_eq_true, and_true, true_and, and_self, or_true, true_or], by simp (decide := true) only [OX10_doesAlt, og106 H, og107 H, og108 H, og103 H, g106 H, g107 H, g108 H, g103 H, e6, e7, e8, e3, a0, OX10_enables, FX10_enables, os107 H, isPlace10_1 hx, x1, b0, if_true, if_false, true_implies, false_implies, implies_true, not_true_eq_false, not_false_eq_true, and_true, true_and, and_self, or_true, true_or], ?_⟩
        refine Or.inr ⟨by simp (decide := true) only [FX3_performOnGuards, FX3_enableChannel, a0, chanIn_0 hx x1, if_true, if_false], by simp (decide := true) only [FX3_performOnGuards, FX3_enableChannel, a0, chanIn_0 hx x1, if_true, if_false], _, by simp (decide := true) only [FX10_doesAlt, g106 H, g107 H, g108 H, g103 H, e6, e7, e8, e3, a0, FX10_enables, s107 H, isPlace10_1 hx, x1, b0, if_true, if_false] <;> rfl⟩
      · by_cases h4 : (4 : Int32) ≤ reg 1
        · have et := at_ok (n := n) (g := g) H hx
          have em := h.2.1 _ (pl_cl hx).1
          by_cases v1 : mem (reg 1).toNatClampNeg = -1
          · have el := lay_ok (n := n) (g := g) (v := FX3_own reg) H hx
            refine ⟨by simp (decide := true) only [OX3_performOnGuards, OX3_enableChannel, FX3_enableChannel, a0, chanIn_1 hx x1, h4, pl_vp hx, v1, if_true, if_false, true_implies, false_implies, implies_true, not_true_eq_false, not_false_eq_true, and_true, true_and, and_self, or_true, true_or], by simp (decide := true) only [OX10_doesAlt, og106 H, og107 H, og108 H, og103 H, g106 H, g107 H, g108 H, g103 H, e6, e7, e8, e3, a0, OX10_enables, FX10_enables, os107 H, isPlace10_1 hx, x1, h4, OX10_enables_b2, FX10_enables_b2, needs_ok one0, fb_46, og103 H, g103 H, oat H (Or.inl rfl), et, em, oown H, own_e H, w1, olay H (Or.inl rfl), v1, el, if_true, if_false, true_implies, false_implies, implies_true, not_true_eq_false, not_false_eq_true, and_true, true_and, and_self, or_true, true_or], ?_⟩
            refine Or.inl ⟨by simp (decide := true) only [FX3_performOnGuards, FX3_enableChannel, a0, chanIn_1 hx x1, h4, v1, if_true, if_false], _, by simp (decide := true) only [FX10_doesAlt, g106 H, g107 H, g108 H, g103 H, e6, e7, e8, e3, a0, FX10_enables, s107 H, isPlace10_1 hx, x1, h4, FX10_enables_b2, needs_ok one0, fb_46, g103 H, et, em, own_e H, w1, v1, el, if_true, if_false] <;> rfl, ?_⟩
            simp (decide := true) only [FX3_performOnGuards, FX3_enableChannel, a0, chanIn_1 hx x1, h4, v1, if_true, if_false]
            exact (RO_B (RO_m (pl_cl hx).1 h)).M
          · by_cases v2 : mem (reg 1).toNatClampNeg = FX3_own reg
            · have v1 : ¬ FX3_own reg = -1 := pNN w2
              refine ⟨by simp (decide := true) only [OX3_performOnGuards, OX3_enableChannel, FX3_enableChannel, a0, chanIn_1 hx x1, h4, pl_vp hx, v1, v2, if_true, if_false, true_implies, false_implies, implies_true, not_true_eq_false, not_false_eq_true, and_true, true_and, and_self, or_true, true_or], by simp (decide := true) only [OX10_doesAlt, og106 H, og107 H, og108 H, og103 H, g106 H, g107 H, g108 H, g103 H, e6, e7, e8, e3, a0, OX10_enables, FX10_enables, os107 H, isPlace10_1 hx, x1, h4, OX10_enables_b2, FX10_enables_b2, needs_ok one0, fb_46, og103 H, g103 H, oat H (Or.inl rfl), et, em, oown H, own_e H, w1, olay H (Or.inl rfl), v1, v2, if_true, if_false, true_implies, false_implies, implies_true, not_true_eq_false, not_false_eq_true, and_true, true_and, and_self, or_true, true_or], ?_⟩
              refine Or.inl ⟨by simp (decide := true) only [FX3_performOnGuards, FX3_enableChannel, a0, chanIn_1 hx x1, h4, v1, v2, if_true, if_false], _, by simp (decide := true) only [FX10_doesAlt, g106 H, g107 H, g108 H, g103 H, e6, e7, e8, e3, a0, FX10_enables, s107 H, isPlace10_1 hx, x1, h4, FX10_enables_b2, needs_ok one0, fb_46, g103 H, et, em, own_e H, w1, v1, v2, if_true, if_false] <;> rfl, ?_⟩
              simp (decide := true) only [FX3_performOnGuards, FX3_enableChannel, a0, chanIn_1 hx x1, h4, v1, v2, if_true, if_false]
              exact (RO_B h).M
            · have el := lay_ok (n := n) (g := g) (v := -4) H hp3
              refine ⟨by simp (decide := true) only [OX3_performOnGuards, OX3_enableChannel, FX3_enableChannel, a0, chanIn_1 hx x1, h4, pl_vp hx, v1, v2, pl_vp hp3, if_true, if_false, true_implies, false_implies, implies_true, not_true_eq_false, not_false_eq_true, and_true, true_and, and_self, or_true, true_or], by simp (decide := true) only [OX10_doesAlt, og106 H, og107 H, og108 H, og103 H, g106 H, g107 H, g108 H, g103 H, e6, e7, e8, e3, a0, OX10_enables, FX10_enables, os107 H, isPlace10_1 hx, x1, h4, OX10_enables_b2, FX10_enables_b2, needs_ok one0, fb_46, og103 H, g103 H, oat H (Or.inl rfl), et, em, oown H, own_e H, w1, olay H (Or.inl rfl), v1, v2, el, if_true, if_false, true_implies, false_implies, implies_true, not_true_eq_false, not_false_eq_true, and_true, true_and, and_self, or_true, true_or], ?_⟩
              refine Or.inl ⟨by simp (decide := true) only [FX3_performOnGuards, FX3_enableChannel, a0, chanIn_1 hx x1, h4, v1, v2, if_true, if_false], _, by simp (decide := true) only [FX10_doesAlt, g106 H, g107 H, g108 H, g103 H, e6, e7, e8, e3, a0, FX10_enables, s107 H, isPlace10_1 hx, x1, h4, FX10_enables_b2, needs_ok one0, fb_46, g103 H, et, em, own_e H, w1, v1, v2, el, if_true, if_false] <;> rfl, ?_⟩
              simp (decide := true) only [FX3_performOnGuards, FX3_enableChannel, a0, chanIn_1 hx x1, h4, v1, v2, if_true, if_false]
              exact (RO_B (RO_m (pl_cl hp3).1 h)).M
        · rcases pl23 hx h4 x1 with e | e
          · have pe : isPl 2 := e ▸ hx
            have ga : ∀ z G, FX10_get ((154 + 10 * (2 &&& 1)) + 7) (fb f z) (emb b n G) = G 161 := fun z G => get_e H (by decide) (by decide)
            have oa : ∀ z m, OX10_get ((154 + 10 * (2 &&& 1)) + 7) (fb f z) m = True := fun z m => oget_e H (k := 161) (by decide) (by decide)
            have s0 : ∀ z G v, FX10_set ((154 + 10 * (2 &&& 1)) + 9) v (fb f z) (emb b n G) = (0, emb b n (upd G 163 v)) := fun z G v => set_e H (by decide) (by decide)
            have os0 : ∀ z m v, OX10_set ((154 + 10 * (2 &&& 1)) + 9) v (fb f z) m = True := fun z m v => oset_e H (k := 163) (by decide) (by decide)
            obtain ⟨q1, q2, -⟩ := h.2.2.2.2.2.2.1.2.2.1
            have q1 : g 161 = l0 7 := q1
            rw [e] at h4 x1
            have ch : FX3_isChannelIn 2 = 1 := chanIn_1 pe x1
            rcases q2 with q2 | q2
            · have h9 := RO_n0 (x := FX3_own reg) h (fun _ => w2)
              refine ⟨by simp (decide := true) only [OX3_performOnGuards, OX3_enableChannel, FX3_enableChannel, a0, e, ch, vp02, vp12, h4, OX3_enableLink, FX3_enableLink, show ((2 : Int32) - 2) = 0 from by decide, show ((3 : Int32) - 2) = 1 from by decide, q2, if_true, if_false, true_implies, false_implies, implies_true, not_true_eq_false, not_false_eq_true, and_true, true_and, and_self, or_true, true_or], by simp (decide := true) only [OX10_doesAlt, og106 H, og107 H, og108 H, og103 H, g106 H, g107 H, g108 H, g103 H, e6, e7, e8, e3, a0, OX10_enables, FX10_enables, os107 H, e, isPlace10_1 pe, x1, h4, OX10_enables_b2, FX10_enables_b2, needs_ok one0, fb_46, og103 H, g103 H, oa, ga, q1, q2, oown H, own_e H, w1, os0, olay H (Or.inl rfl), s0, if_true, if_false, true_implies, false_implies, implies_true, not_true_eq_false, not_false_eq_true, and_true, true_and, and_self, or_true, true_or], ?_⟩
              refine Or.inl ⟨by simp (decide := true) only [FX3_performOnGuards, FX3_enableChannel, a0, e, ch, h4, FX3_enableLink, q2, if_true, if_false], _, by simp (decide := true) only [FX10_doesAlt, g106 H, g107 H, g108 H, g103 H, e6, e7, e8, e3, a0, FX10_enables, s107 H, e, isPlace10_1 pe, x1, h4, FX10_enables_b2, needs_ok one0, fb_46, g103 H, ga, q1, q2, own_e H, w1, s0, if_true, if_false] <;> rfl, ?_⟩
              simp (decide := true) only [FX3_performOnGuards, FX3_enableChannel, a0, e, ch, h4, FX3_enableLink, q2, if_true, if_false]
              exact (RO_B h9).M
            · have el := lay_ok (n := n) (g := g) (v := -4) H hp3
              refine ⟨by simp (decide := true) only [OX3_performOnGuards, OX3_enableChannel, FX3_enableChannel, a0, e, ch, vp02, vp12, h4, OX3_enableLink, FX3_enableLink, show ((2 : Int32) - 2) = 0 from by decide, show ((3 : Int32) - 2) = 1 from by decide, q2, pl_vp hp3, if_true, if_false, true_implies, false_implies, implies_true, not_true_eq_false, not_false_eq_true, and_true, true_and, and_self, or_true, true_or], by simp (decide := true) only [OX10_doesAlt, og106 H, og107 H, og108 H, og103 H, g106 H, g107 H, g108 H, g103 H, e6, e7, e8, e3, a0, OX10_enables, FX10_enables, os107 H, e, isPlace10_1 pe, x1, h4, OX10_enables_b2, FX10_enables_b2, needs_ok one0, fb_46, og103 H, g103 H, oa, ga, q1, q2, oown H, own_e H, w1, os0, olay H (Or.inl rfl), el, if_true, if_false, true_implies, false_implies, implies_true, not_true_eq_false, not_false_eq_true, and_true, true_and, and_self, or_true, true_or], ?_⟩
              refine Or.inl ⟨by simp (decide := true) only [FX3_performOnGuards, FX3_enableChannel, a0, e, ch, h4, FX3_enableLink, q2, if_true, if_false], _, by simp (decide := true) only [FX10_doesAlt, g106 H, g107 H, g108 H, g103 H, e6, e7, e8, e3, a0, FX10_enables, s107 H, e, isPlace10_1 pe, x1, h4, FX10_enables_b2, needs_ok one0, fb_46, g103 H, ga, q1, q2, own_e H, w1, el, if_true, if_false] <;> rfl, ?_⟩
              simp (decide := true) only [FX3_performOnGuards, FX3_enableChannel, a0, e, ch, h4, FX3_enableLink, q2, if_true, if_false]
              exact (RO_B (RO_m (pl_cl hp3).1 h)).M
          · have pe : isPl 3 := e ▸ hx
            have ga : ∀ z G, FX10_get ((154 + 10 * (3 &&& 1)) + 7) (fb f z) (emb b n G) = G 171 := fun z G => get_e H (by decide) (by decide)
            have oa : ∀ z m, OX10_get ((154 + 10 * (3 &&& 1)) + 7) (fb f z) m = True := fun z m => oget_e H (k := 171) (by decide) (by decide)
            have s0 : ∀ z G v, FX10_set ((154 + 10 * (3 &&& 1)) + 9) v (fb f z) (emb b n G) = (0, emb b n (upd G 173 v)) := fun z G v => set_e H (by decide) (by decide)
            have os0 : ∀ z m v, OX10_set ((154 + 10 * (3 &&& 1)) + 9) v (fb f z) m = True := fun z m v => oset_e H (k := 173) (by decide) (by decide)
            obtain ⟨q1, q2, -⟩ := h.2.2.2.2.2.2.2.2.2.1
            have q1 : g 171 = l1 7 := q1
            rw [e] at h4 x1
            have ch : FX3_isChannelIn 3 = 1 := chanIn_1 pe x1
            rcases q2 with q2 | q2
            · have h9 := RO_n1 (x := FX3_own reg) h (fun _ => w2)
              refine ⟨by simp (decide := true) only [OX3_performOnGuards, OX3_enableChannel, FX3_enableChannel, a0, e, ch, vp02, vp12, h4, OX3_enableLink, FX3_enableLink, show ((2 : Int32) - 2) = 0 from by decide, show ((3 : Int32) - 2) = 1 from by decide, q2, if_true, if_false, true_implies, false_implies, implies_true, not_true_eq_false, not_false_eq_true, and_true, true_and, and_self, or_true, true_or], by simp (decide := true) only [OX10_doesAlt, og106 H, og107 H, og108 H, og103 H, g106 H, g107 H, g108 H, g103 H, e6, e7, e8, e3, a0, OX10_enables, FX10_enables, os107 H, e, isPlace10_1 pe, x1, h4, OX10_enables_b2, FX10_enables_b2, needs_ok one0, fb_46, og103 H, g103 H, oa, ga, q1, q2, oown H, own_e H, w1, os0, olay H (Or.inl rfl), s0, if_true, if_false, true_implies, false_implies, implies_true, not_true_eq_false, not_false_eq_true, and_true, true_and, and_self, or_true, true_or], ?_⟩
              refine Or.inl ⟨by simp (decide := true) only [FX3_performOnGuards, FX3_enableChannel, a0, e, ch, h4, FX3_enableLink, q2, if_true, if_false], _, by simp (decide := true) only [FX10_doesAlt, g106 H, g107 H, g108 H, g103 H, e6, e7, e8, e3, a0, FX10_enables, s107 H, e, isPlace10_1 pe, x1, h4, FX10_enables_b2, needs_ok one0, fb_46, g103 H, ga, q1, q2, own_e H, w1, s0, if_true, if_false] <;> rfl, ?_⟩
              simp (decide := true) only [FX3_performOnGuards, FX3_enableChannel, a0, e, ch, h4, FX3_enableLink, q2, if_true, if_false]
              exact (RO_B h9).M
            · have el := lay_ok (n := n) (g := g) (v := -4) H hp3
              refine ⟨by simp (decide := true) only [OX3_performOnGuards, OX3_enableChannel, FX3_enableChannel, a0, e, ch, vp02, vp12, h4, OX3_enableLink, FX3_enableLink, show ((2 : Int32) - 2) = 0 from by decide, show ((3 : Int32) - 2) = 1 from by decide, q2, pl_vp hp3, if_true, if_false, true_implies, false_implies, implies_true, not_true_eq_false, not_false_eq_true, and_true, true_and, and_self, or_true, true_or], by simp (decide := true) only [OX10_doesAlt, og106 H, og107 H, og108 H, og103 H, g106 H, g107 H, g108 H, g103 H, e6, e7, e8, e3, a0, OX10_enables, FX10_enables, os107 H, e, isPlace10_1 pe, x1, h4, OX10_enables_b2, FX10_enables_b2, needs_ok one0, fb_46, og103 H, g103 H, oa, ga, q1, q2, oown H, own_e H, w1, os0, olay H (Or.inl rfl), el, if_true, if_false, true_implies, false_implies, implies_true, not_true_eq_false, not_false_eq_true, and_true, true_and, and_self, or_true, true_or], ?_⟩
              refine Or.inl ⟨by simp (decide := true) only [FX3_performOnGuards, FX3_enableChannel, a0, e, ch, h4, FX3_enableLink, q2, if_true, if_false], _, by simp (decide := true) only [FX10_doesAlt, g106 H, g107 H, g108 H, g103 H, e6, e7, e8, e3, a0, FX10_enables, s107 H, e, isPlace10_1 pe, x1, h4, FX10_enables_b2, needs_ok one0, fb_46, g103 H, ga, q1, q2, own_e H, w1, el, if_true, if_false] <;> rfl, ?_⟩
              simp (decide := true) only [FX3_performOnGuards, FX3_enableChannel, a0, e, ch, h4, FX3_enableLink, q2, if_true, if_false]
              exact (RO_B (RO_m (pl_cl hp3).1 h)).M
    · skip
      refine ⟨by simp (decide := true) only [OX3_performOnGuards, OX3_enableChannel, FX3_enableChannel, a0, chanIn_n hx, if_true, if_false, true_implies, false_implies, implies_true, not_true_eq_false, not_false_eq_true, and_true, true_and, and_self, or_true, true_or], by simp (decide := true) only [OX10_doesAlt, og106 H, og107 H, og108 H, og103 H, g106 H, g107 H, g108 H, g103 H, e6, e7, e8, e3, a0, OX10_enables, FX10_enables, os107 H, isPlace10_0 hx, b0, if_true, if_false, true_implies, false_implies, implies_true, not_true_eq_false, not_false_eq_true, and_true, true_and, and_self, or_true, true_or], ?_⟩
      refine Or.inr ⟨by simp (decide := true) only [FX3_performOnGuards, FX3_enableChannel, a0, chanIn_n hx, if_true, if_false], by simp (decide := true) only [FX3_performOnGuards, FX3_enableChannel, a0, chanIn_n hx, if_true, if_false], _, by simp (decide := true) only [FX10_doesAlt, g106 H, g107 H, g108 H, g103 H, e6, e7, e8, e3, a0, FX10_enables, s107 H, isPlace10_0 hx, b0, if_true, if_false] <;> rfl⟩
theorem guard_31 (H : Hb f b) (h : RO reg mem tz tp tt tb l0 l1 g) : OX3_performOnGuards 31 reg mem tz tp tt tb l0 l1 ∧ OX10_doesAlt 31 (fb f 0) (emb b n g) ∧ ResG (FX3_performOnGuards 31 reg mem tz tp tt tb l0 l1) (FX10_doesAlt 31 (fb f 0) (emb b n g)) f b n mem tz tp tt tb l0 l1 := by
  have e6 : g 106 = reg 0 := h.1.2.2.2.2.2.2.1
  have e7 : g 107 = reg 1 := h.1.2.2.2.2.2.2.2.1
  have e8 : g 108 = reg 2 := h.1.2.2.2.2.2.2.2.2.1
  have e3 : g 103 = reg 4 := h.1.2.2.1
  have hw := h.1.1
  have hp0 := wPl hw
  have hp3 := wS3 hw
  have hp4 := wS4 hw
  have hp5 := wS5 hw
  obtain ⟨i1, i3, i4, i5, i6⟩ := wIdx hw
  have b0 : ∀ y m, OX10_disables_b2 y 0 (fb f 0) m ∧ FX10_disables_b2 y 0 (fb f 0) m = (0, fb f 1, m) := fun y m => ⟨by simp (decide := true) only [OX10_disables_b2, needs_bad, fb_46, if_true, if_false, true_implies, false_implies, implies_true, not_true_eq_false, not_false_eq_true, and_true, true_and, and_self, or_true, true_or], by simp (decide := true) only [FX10_disables_b2, needs_bad, fb_46, if_true, if_false]⟩
  have f1 : ∀ G, OX10_fires 0 (fb f 1) (emb b n G) ∧ FX10_fires 0 (fb f 1) (emb b n G) = (0, fb f 1, emb b n (upd G 106 0)) := fun G => ⟨by simp (decide := true) only [OX10_fires, os106 H, if_true, if_false, true_implies, false_implies, implies_true, not_true_eq_false, not_false_eq_true, and_true, true_and, and_self, or_true, true_or], by simp (decide := true) only [FX10_fires, s106 H, if_true, if_false]⟩
  obtain ⟨w1, w2, -⟩ := own_R h.1
  rw [e3] at w1
  by_cases a0 : reg 1 = 0
  · obtain ⟨k1, k2, g', k3, k4, k5⟩ := p_fire0 (n := n) H h
    refine ⟨by simp (decide := true) only [OX3_performOnGuards, OX3_disableChannel, FX3_disableChannel, a0, k1, if_true, if_false, true_implies, false_implies, implies_true, not_true_eq_false, not_false_eq_true, and_true, true_and, and_self, or_true, true_or], by simp (decide := true) only [OX10_doesAlt, og106 H, og107 H, og108 H, og103 H, g106 H, g107 H, g108 H, g103 H, e6, e7, e8, e3, a0, os107 H, os108 H, s107 H, k2, k3, if_true, if_false, true_implies, false_implies, implies_true, not_true_eq_false, not_false_eq_true, and_true, true_and, and_self, or_true, true_or], ?_⟩
    refine Or.inl ⟨by simp (decide := true) only [FX3_performOnGuards, FX3_disableChannel, a0, if_true, if_false], _, by simp (decide := true) only [FX10_doesAlt, g106 H, g107 H, g108 H, g103 H, e6, e7, e8, e3, a0, s107 H, s108 H, k3, if_true, if_false] <;> rfl, ?_⟩
    simp (decide := true) only [FX3_performOnGuards, FX3_disableChannel, a0, if_true, if_false]
    exact (RO_C (RO_B k4)).M
  · by_cases hx : isPl (reg 2)
    · by_cases x1 : reg 2 ≤ 1
      · skip
        refine ⟨by simp (decide := true) only [OX3_performOnGuards, OX3_disableChannel, FX3_disableChannel, a0, chanIn_0 hx x1, if_true, if_false, true_implies, false_implies, implies_true, not_true_eq_false, not_false_eq_true, and_true, true_and, and_self, or_true, true_or], by simp (decide := true) only [OX10_doesAlt, og106 H, og107 H, og108 H, og103 H, g106 H, g107 H, g108 H, g103 H, e6, e7, e8, e3, a0, OX10_disables, os107 H, os108 H, s107 H, FX10_disables, isPlace10_1 hx, x1, b0, f1, if_true, if_false, true_implies, false_implies, implies_true, not_true_eq_false, not_false_eq_true, and_true, true_and, and_self, or_true, true_or], ?_⟩
        refine Or.inr ⟨by simp (decide := true) only [FX3_performOnGuards, FX3_disableChannel, a0, chanIn_0 hx x1, if_true, if_false], by simp (decide := true) only [FX3_performOnGuards, FX3_disableChannel, a0, chanIn_0 hx x1, if_true, if_false], _, by simp (decide := true) only [FX10_doesAlt, g106 H, g107 H, g108 H, g103 H, e6, e7, e8, e3, a0, FX10_disables, s107 H, s108 H, isPlace10_1 hx, x1, b0, f1, if_true, if_false] <;> rfl⟩
      · by_cases h4 : (4 : Int32) ≤ reg 2
        · have et := at_ok (n := n) (g := g) H hx
          have em := h.2.1 _ (pl_cl hx).1
          by_cases v2 : mem (reg 2).toNatClampNeg = FX3_own reg
          · have el := lay_ok (n := n) (g := g) (v := -1) H hx
            obtain ⟨k1, k2, g', k3, k4, k5⟩ := p_fire0 (n := n) H (RO_m (x := -1) (pl_cl hx).1 h)
            refine ⟨by simp (decide := true) only [OX3_performOnGuards, OX3_disableChannel, FX3_disableChannel, a0, chanIn_1 hx x1, h4, pl_vp hx, v2, k1, if_true, if_false, true_implies, false_implies, implies_true, not_true_eq_false, not_false_eq_true, and_true, true_and, and_self, or_true, true_or], by simp (decide := true) only [OX10_doesAlt, og106 H, og107 H, og108 H, og103 H, g106 H, g107 H, g108 H, g103 H, e6, e7, e8, e3, a0, OX10_disables, os107 H, os108 H, s107 H, FX10_disables, isPlace10_1 hx, x1, h4, OX10_disables_b2, FX10_disables_b2, needs_ok one0, fb_46, oat H (Or.inl rfl), et, em, oown H, own_e H, w1, olay H (Or.inl rfl), v2, el, k2, k3, if_true, if_false, true_implies, false_implies, implies_true, not_true_eq_false, not_false_eq_true, and_true, true_and, and_self, or_true, true_or], ?_⟩
            refine Or.inl ⟨by simp (decide := true) only [FX3_performOnGuards, FX3_disableChannel, a0, chanIn_1 hx x1, h4, v2, if_true, if_false], _, by simp (decide := true) only [FX10_doesAlt, g106 H, g107 H, g108 H, g103 H, e6, e7, e8, e3, a0, FX10_disables, s107 H, s108 H, isPlace10_1 hx, x1, h4, FX10_disables_b2, needs_ok one0, fb_46, et, em, own_e H, w1, v2, el, k3, if_true, if_false] <;> rfl, ?_⟩
            simp (decide := true) only [FX3_performOnGuards, FX3_disableChannel, a0, chanIn_1 hx x1, h4, v2, if_true, if_false]
            exact (RO_C (RO_B k4)).M
          · by_cases v1 : mem (reg 2).toNatClampNeg = -1
            · have v3 : ¬ -1 = FX3_own reg := fun q => pNN w2 q.symm
              obtain ⟨k1, k2, g', k3, k4, k5⟩ := p_fire0 (n := n) H h
              refine ⟨by simp (decide := true) only [OX3_performOnGuards, OX3_disableChannel, FX3_disableChannel, a0, chanIn_1 hx x1, h4, pl_vp hx, v1, v3, k1, if_true, if_false, true_implies, false_implies, implies_true, not_true_eq_false, not_false_eq_true, and_true, true_and, and_self, or_true, true_or], by simp (decide := true) only [OX10_doesAlt, og106 H, og107 H, og108 H, og103 H, g106 H, g107 H, g108 H, g103 H, e6, e7, e8, e3, a0, OX10_disables, os107 H, os108 H, s107 H, FX10_disables, isPlace10_1 hx, x1, h4, OX10_disables_b2, FX10_disables_b2, needs_ok one0, fb_46, oat H (Or.inl rfl), et, em, oown H, own_e H, w1, olay H (Or.inl rfl), v1, v3, k2, k3, if_true, if_false, true_implies, false_implies, implies_true, not_true_eq_false, not_false_eq_true, and_true, true_and, and_self, or_true, true_or], ?_⟩
              refine Or.inl ⟨by simp (decide := true) only [FX3_performOnGuards, FX3_disableChannel, a0, chanIn_1 hx x1, h4, v1, v3, if_true, if_false], _, by simp (decide := true) only [FX10_doesAlt, g106 H, g107 H, g108 H, g103 H, e6, e7, e8, e3, a0, FX10_disables, s107 H, s108 H, isPlace10_1 hx, x1, h4, FX10_disables_b2, needs_ok one0, fb_46, et, em, own_e H, w1, v1, v3, k3, if_true, if_false] <;> rfl, ?_⟩
              simp (decide := true) only [FX3_performOnGuards, FX3_disableChannel, a0, chanIn_1 hx x1, h4, v1, v3, if_true, if_false]
              exact (RO_C (RO_B k4)).M
            · obtain ⟨k1, k2, g', k3, k4, k5⟩ := p_fire1 (n := n) H h
              refine ⟨by simp (decide := true) only [OX3_performOnGuards, OX3_disableChannel, FX3_disableChannel, a0, chanIn_1 hx x1, h4, pl_vp hx, v1, v2, k1, if_true, if_false, true_implies, false_implies, implies_true, not_true_eq_false, not_false_eq_true, and_true, true_and, and_self, or_true, true_or], by simp (decide := true) only [OX10_doesAlt, og106 H, og107 H, og108 H, og103 H, g106 H, g107 H, g108 H, g103 H, e6, e7, e8, e3, a0, OX10_disables, os107 H, os108 H, s107 H, FX10_disables, isPlace10_1 hx, x1, h4, OX10_disables_b2, FX10_disables_b2, needs_ok one0, fb_46, oat H (Or.inl rfl), et, em, oown H, own_e H, w1, olay H (Or.inl rfl), v1, v2, k2, k3, if_true, if_false, true_implies, false_implies, implies_true, not_true_eq_false, not_false_eq_true, and_true, true_and, and_self, or_true, true_or], ?_⟩
              refine Or.inl ⟨by simp (decide := true) only [FX3_performOnGuards, FX3_disableChannel, a0, chanIn_1 hx x1, h4, v1, v2, if_true, if_false], _, by simp (decide := true) only [FX10_doesAlt, g106 H, g107 H, g108 H, g103 H, e6, e7, e8, e3, a0, FX10_disables, s107 H, s108 H, isPlace10_1 hx, x1, h4, FX10_disables_b2, needs_ok one0, fb_46, et, em, own_e H, w1, v1, v2, k3, if_true, if_false] <;> rfl, ?_⟩
              simp (decide := true) only [FX3_performOnGuards, FX3_disableChannel, a0, chanIn_1 hx x1, h4, v1, v2, if_true, if_false]
              exact (RO_C (RO_B k4)).M
        · rcases pl23 hx h4 x1 with e | e
          · have pe : isPl 2 := e ▸ hx
            have ga : ∀ z G, FX10_get ((154 + 10 * (2 &&& 1)) + 7) (fb f z) (emb b n G) = G 161 := fun z G => get_e H (by decide) (by decide)
            have oa : ∀ z m, OX10_get ((154 + 10 * (2 &&& 1)) + 7) (fb f z) m = True := fun z m => oget_e H (k := 161) (by decide) (by decide)
            have s0 : ∀ z G v, FX10_set ((154 + 10 * (2 &&& 1)) + 9) v (fb f z) (emb b n G) = (0, emb b n (upd G 163 v)) := fun z G v => set_e H (by decide) (by decide)
            have os0 : ∀ z m v, OX10_set ((154 + 10 * (2 &&& 1)) + 9) v (fb f z) m = True := fun z m v => oset_e H (k := 163) (by decide) (by decide)
            obtain ⟨q1, q2, -⟩ := h.2.2.2.2.2.2.1.2.2.1
            have q1 : upd g 163 (-1) 161 = l0 7 := (pk_un (by decide)).trans q1
            rw [e] at h4 x1
            have ch : FX3_isChannelIn 2 = 1 := chanIn_1 pe x1
            have h9 := RO_n0 (x := -1) h (fun q => absurd rfl q)
            rcases q2 with q2 | q2
            · obtain ⟨k1, k2, g', k3, k4, k5⟩ := p_fire0 (n := n) H h9
              refine ⟨by simp (decide := true) only [OX3_performOnGuards, OX3_disableChannel, FX3_disableChannel, a0, e, ch, vp02, vp12, h4, show ((2 : Int32) - 2) = 0 from by decide, show ((3 : Int32) - 2) = 1 from by decide, q2, k1, if_true, if_false, true_implies, false_implies, implies_true, not_true_eq_false, not_false_eq_true, and_true, true_and, and_self, or_true, true_or], by simp (decide := true) only [OX10_doesAlt, og106 H, og107 H, og108 H, og103 H, g106 H, g107 H, g108 H, g103 H, e6, e7, e8, e3, a0, OX10_disables, os107 H, os108 H, s107 H, FX10_disables, e, isPlace10_1 pe, x1, h4, OX10_disables_b2, FX10_disables_b2, needs_ok one0, fb_46, oa, os0, s0, ga, q1, q2, k2, k3, if_true, if_false, true_implies, false_implies, implies_true, not_true_eq_false, not_false_eq_true, and_true, true_and, and_self, or_true, true_or], ?_⟩
              refine Or.inl ⟨by simp (decide := true) only [FX3_performOnGuards, FX3_disableChannel, a0, e, ch, h4, q2, if_true, if_false], _, by simp (decide := true) only [FX10_doesAlt, g106 H, g107 H, g108 H, g103 H, e6, e7, e8, e3, a0, FX10_disables, s107 H, s108 H, e, isPlace10_1 pe, x1, h4, FX10_disables_b2, needs_ok one0, fb_46, s0, ga, q1, q2, k3, if_true, if_false] <;> rfl, ?_⟩
              simp (decide := true) only [FX3_performOnGuards, FX3_disableChannel, a0, e, ch, h4, q2, if_true, if_false]
              exact (RO_C (RO_B k4)).M
            · obtain ⟨k1, k2, g', k3, k4, k5⟩ := p_fire1 (n := n) H h9
              refine ⟨by simp (decide := true) only [OX3_performOnGuards, OX3_disableChannel, FX3_disableChannel, a0, e, ch, vp02, vp12, h4, show ((2 : Int32) - 2) = 0 from by decide, show ((3 : Int32) - 2) = 1 from by decide, q2, k1, if_true, if_false, true_implies, false_implies, implies_true, not_true_eq_false, not_false_eq_true, and_true, true_and, and_self, or_true, true_or], by simp (decide := true) only [OX10_doesAlt, og106 H, og107 H, og108 H, og103 H, g106 H, g107 H, g108 H, g103 H, e6, e7, e8, e3, a0, OX10_disables, os107 H, os108 H, s107 H, FX10_disables, e, isPlace10_1 pe, x1, h4, OX10_disables_b2, FX10_disables_b2, needs_ok one0, fb_46, oa, os0, s0, ga, q1, q2, k2, k3, if_true, if_false, true_implies, false_implies, implies_true, not_true_eq_false, not_false_eq_true, and_true, true_and, and_self, or_true, true_or], ?_⟩
              refine Or.inl ⟨by simp (decide := true) only [FX3_performOnGuards, FX3_disableChannel, a0, e, ch, h4, q2, if_true, if_false], _, by simp (decide := true) only [FX10_doesAlt, g106 H, g107 H, g108 H, g103 H, e6, e7, e8, e3, a0, FX10_disables, s107 H, s108 H, e, isPlace10_1 pe, x1, h4, FX10_disables_b2, needs_ok one0, fb_46, s0, ga, q1, q2, k3, if_true, if_false] <;> rfl, ?_⟩
              simp (decide := true) only [FX3_performOnGuards, FX3_disableChannel, a0, e, ch, h4, q2, if_true, if_false]
              exact (RO_C (RO_B k4)).M
          · have pe : isPl 3 := e ▸ hx
            have ga : ∀ z G, FX10_get ((154 + 10 * (3 &&& 1)) + 7) (fb f z) (emb b n G) = G 171 := fun z G => get_e H (by decide) (by decide)
            have oa : ∀ z m, OX10_get ((154 + 10 * (3 &&& 1)) + 7) (fb f z) m = True := fun z m => oget_e H (k := 171) (by decide) (by decide)
            have s0 : ∀ z G v, FX10_set ((154 + 10 * (3 &&& 1)) + 9) v (fb f z) (emb b n G) = (0, emb b n (upd G 173 v)) := fun z G v => set_e H (by decide) (by decide)
            have os0 : ∀ z m v, OX10_set ((154 + 10 * (3 &&& 1)) + 9) v (fb f z) m = True := fun z m v => oset_e H (k := 173) (by decide) (by decide)
            obtain ⟨q1, q2, -⟩ := h.2.2.2.2.2.2.2.2.2.1
            have q1 : upd g 173 (-1) 171 = l1 7 := (pk_un (by decide)).trans q1
            rw [e] at h4 x1
            have ch : FX3_isChannelIn 3 = 1 := chanIn_1 pe x1
            have h9 := RO_n1 (x := -1) h (fun q => absurd rfl q)
            rcases q2 with q2 | q2
            · obtain ⟨k1, k2, g', k3, k4, k5⟩ := p_fire0 (n := n) H h9
              refine ⟨by simp (decide := true) only [OX3_performOnGuards, OX3_disableChannel, FX3_disableChannel, a0, e, ch, vp02, vp12, h4, show ((2 : Int32) - 2) = 0 from by decide, show ((3 : Int32) - 2) = 1 from by decide, q2, k1, if_true, if_false, true_implies, false_implies, implies_true, not_true_eq_false, not_false_eq_true, and_true, true_and, and_self, or_true, true_or], by simp (decide := true) only [OX10_doesAlt, og106 H, og107 H, og108 H, og103 H, g106 H, g107 H, g108 H, g103 H, e6, e7, e8, e3, a0, OX10_disables, os107 H, os108 H, s107 H, FX10_disables, e, isPlace10_1 pe, x1, h4, OX10_disables_b2, FX10_disables_b2, needs_ok one0, fb_46, oa, os0, s0, ga, q1, q2, k2, k3, if_true, if_false, true_implies, false_implies, implies_true, not_true_eq_false, not_false_eq_true, and_true, true_and, and_self, or_true, true_or], ?_⟩
              refine Or.inl ⟨by simp (decide := true) only [FX3_performOnGuards, FX3_disableChannel, a0, e, ch, h4, q2, if_true, if_false], _, by simp (decide := true) only [FX10_doesAlt, g106 H, g107 H, g108 H, g103 H, e6, e7, e8, e3, a0, FX10_disables, s107 H, s108 H, e, isPlace10_1 pe, x1, h4, FX10_disables_b2, needs_ok one0, fb_46, s0, ga, q1, q2, k3, if_true, if_false] <;> rfl, ?_⟩
              simp (decide := true) only [FX3_performOnGuards, FX3_disableChannel, a0, e, ch, h4, q2, if_true, if_false]
              exact (RO_C (RO_B k4)).M
            · obtain ⟨k1, k2, g', k3, k4, k5⟩ := p_fire1 (n := n) H h9
              refine ⟨by simp (decide := true) only [OX3_performOnGuards, OX3_disableChannel, FX3_disableChannel, a0, e, ch, vp02, vp12, h4, show ((2 : Int32) - 2) = 0 from by decide, show ((3 : Int32) - 2) = 1 from by decide, q2, k1, if_true, if_false, true_implies, false_implies, implies_true, not_true_eq_false, not_false_eq_true, and_true, true_and, and_self, or_true, true_or], by simp (decide := true) only [OX10_doesAlt, og106 H, og107 H, og108 H, og103 H, g106 H, g107 H, g108 H, g103 H, e6, e7, e8, e3, a0, OX10_disables, os107 H, os108 H, s107 H, FX10_disables, e, isPlace10_1 pe, x1, h4, OX10_disables_b2, FX10_disables_b2, needs_ok one0, fb_46, oa, os0, s0, ga, q1, q2, k2, k3, if_true, if_false, true_implies, false_implies, implies_true, not_true_eq_false, not_false_eq_true, and_true, true_and, and_self, or_true, true_or], ?_⟩
              refine Or.inl ⟨by simp (decide := true) only [FX3_performOnGuards, FX3_disableChannel, a0, e, ch, h4, q2, if_true, if_false], _, by simp (decide := true) only [FX10_doesAlt, g106 H, g107 H, g108 H, g103 H, e6, e7, e8, e3, a0, FX10_disables, s107 H, s108 H, e, isPlace10_1 pe, x1, h4, FX10_disables_b2, needs_ok one0, fb_46, s0, ga, q1, q2, k3, if_true, if_false] <;> rfl, ?_⟩
              simp (decide := true) only [FX3_performOnGuards, FX3_disableChannel, a0, e, ch, h4, q2, if_true, if_false]
              exact (RO_C (RO_B k4)).M
    · skip
      refine ⟨by simp (decide := true) only [OX3_performOnGuards, OX3_disableChannel, FX3_disableChannel, a0, chanIn_n hx, if_true, if_false, true_implies, false_implies, implies_true, not_true_eq_false, not_false_eq_true, and_true, true_and, and_self, or_true, true_or], by simp (decide := true) only [OX10_doesAlt, og106 H, og107 H, og108 H, og103 H, g106 H, g107 H, g108 H, g103 H, e6, e7, e8, e3, a0, OX10_disables, os107 H, os108 H, s107 H, FX10_disables, isPlace10_0 hx, b0, f1, if_true, if_false, true_implies, false_implies, implies_true, not_true_eq_false, not_false_eq_true, and_true, true_and, and_self, or_true, true_or], ?_⟩
      refine Or.inr ⟨by simp (decide := true) only [FX3_performOnGuards, FX3_disableChannel, a0, chanIn_n hx, if_true, if_false], by simp (decide := true) only [FX3_performOnGuards, FX3_disableChannel, a0, chanIn_n hx, if_true, if_false], _, by simp (decide := true) only [FX10_doesAlt, g106 H, g107 H, g108 H, g103 H, e6, e7, e8, e3, a0, FX10_disables, s107 H, s108 H, isPlace10_0 hx, b0, f1, if_true, if_false] <;> rfl⟩
theorem guard_32 (H : Hb f b) (h : RO reg mem tz tp tt tb l0 l1 g) : OX3_performOnGuards 32 reg mem tz tp tt tb l0 l1 ∧ OX10_doesAlt 32 (fb f 0) (emb b n g) ∧ ResG (FX3_performOnGuards 32 reg mem tz tp tt tb l0 l1) (FX10_doesAlt 32 (fb f 0) (emb b n g)) f b n mem tz tp tt tb l0 l1 := by
  have e6 : g 106 = reg 0 := h.1.2.2.2.2.2.2.1
  have e7 : g 107 = reg 1 := h.1.2.2.2.2.2.2.2.1
  have e8 : g 108 = reg 2 := h.1.2.2.2.2.2.2.2.2.1
  have e3 : g 103 = reg 4 := h.1.2.2.1
  have hw := h.1.1
  have hp0 := wPl hw
  have hp3 := wS3 hw
  have hp4 := wS4 hw
  have hp5 := wS5 hw
  obtain ⟨i1, i3, i4, i5, i6⟩ := wIdx hw
  by_cases a0 : reg 0 = 0
  · skip
    refine ⟨by simp (decide := true) only [OX3_performOnGuards, a0, if_true, if_false, true_implies, false_implies, implies_true, not_true_eq_false, not_false_eq_true, and_true, true_and, and_self, or_true, true_or], by simp (decide := true) only [OX10_doesAlt, og106 H, og107 H, og108 H, og103 H, g106 H, g107 H, g108 H, g103 H, e6, e7, e8, e3, a0, if_true, if_false, true_implies, false_implies, implies_true, not_true_eq_false, not_false_eq_true, and_true, true_and, and_self, or_true, true_or], ?_⟩
    refine Or.inl ⟨by simp (decide := true) only [FX3_performOnGuards, a0, if_true, if_false], _, by simp (decide := true) only [FX10_doesAlt, g106 H, g107 H, g108 H, g103 H, e6, e7, e8, e3, a0, if_true, if_false] <;> rfl, ?_⟩
    simp (decide := true) only [FX3_performOnGuards, a0, if_true, if_false]
    exact h.M
  · have el := lay_ok (n := n) (g := g) (v := -4) H hp3
    refine ⟨by simp (decide := true) only [OX3_performOnGuards, a0, pl_vp hp3, if_true, if_false, true_implies, false_implies, implies_true, not_true_eq_false, not_false_eq_true, and_true, true_and, and_self, or_true, true_or], by simp (decide := true) only [OX10_doesAlt, og106 H, og107 H, og108 H, og103 H, g106 H, g107 H, g108 H, g103 H, e6, e7, e8, e3, a0, olay H (Or.inl rfl), if_true, if_false, true_implies, false_implies, implies_true, not_true_eq_false, not_false_eq_true, and_true, true_and, and_self, or_true, true_or], ?_⟩
    refine Or.inl ⟨by simp (decide := true) only [FX3_performOnGuards, a0, if_true, if_false], _, by simp (decide := true) only [FX10_doesAlt, g106 H, g107 H, g108 H, g103 H, e6, e7, e8, e3, a0, el, if_true, if_false] <;> rfl, ?_⟩
    simp (decide := true) only [FX3_performOnGuards, a0, if_true, if_false]
    exact (RO_m (pl_cl hp3).1 h).M
theorem guard_33 (H : Hb f b) (h : RO reg mem tz tp tt tb l0 l1 g) : OX3_performOnGuards 33 reg mem tz tp tt tb l0 l1 ∧ OX10_doesAlt 33 (fb f 0) (emb b n g) ∧ ResG (FX3_performOnGuards 33 reg mem tz tp tt tb l0 l1) (FX10_doesAlt 33 (fb f 0) (emb b n g)) f b n mem tz tp tt tb l0 l1 := by
  have e6 : g 106 = reg 0 := h.1.2.2.2.2.2.2.1
  have e7 : g 107 = reg 1 := h.1.2.2.2.2.2.2.2.1
  have e8 : g 108 = reg 2 := h.1.2.2.2.2.2.2.2.2.1
  have e3 : g 103 = reg 4 := h.1.2.2.1
  have hw := h.1.1
  have hp0 := wPl hw
  have hp3 := wS3 hw
  have hp4 := wS4 hw
  have hp5 := wS5 hw
  obtain ⟨i1, i3, i4, i5, i6⟩ := wIdx hw
  by_cases a0 : reg 1 = 0
  · obtain ⟨k1, k2, g', k3, k4, k5⟩ := p_fire0 (n := n) H h
    refine ⟨by simp (decide := true) only [OX3_performOnGuards, a0, k1, if_true, if_false, true_implies, false_implies, implies_true, not_true_eq_false, not_false_eq_true, and_true, true_and, and_self, or_true, true_or], by simp (decide := true) only [OX10_doesAlt, og106 H, og107 H, og108 H, og103 H, g106 H, g107 H, g108 H, g103 H, e6, e7, e8, e3, a0, k2, k3, os107 H, if_true, if_false, true_implies, false_implies, implies_true, not_true_eq_false, not_false_eq_true, and_true, true_and, and_self, or_true, true_or], ?_⟩
    refine Or.inl ⟨by simp (decide := true) only [FX3_performOnGuards, a0, if_true, if_false], _, by simp (decide := true) only [FX10_doesAlt, g106 H, g107 H, g108 H, g103 H, e6, e7, e8, e3, a0, k3, s107 H, if_true, if_false] <;> rfl, ?_⟩
    simp (decide := true) only [FX3_performOnGuards, a0, if_true, if_false]
    rw [k5]
    exact (RO_B k4).M
  · obtain ⟨k1, k2, g', k3, k4, k5⟩ := p_fire1 (n := n) H h
    refine ⟨by simp (decide := true) only [OX3_performOnGuards, a0, k1, if_true, if_false, true_implies, false_implies, implies_true, not_true_eq_false, not_false_eq_true, and_true, true_and, and_self, or_true, true_or], by simp (decide := true) only [OX10_doesAlt, og106 H, og107 H, og108 H, og103 H, g106 H, g107 H, g108 H, g103 H, e6, e7, e8, e3, a0, k2, k3, os107 H, if_true, if_false, true_implies, false_implies, implies_true, not_true_eq_false, not_false_eq_true, and_true, true_and, and_self, or_true, true_or], ?_⟩
    refine Or.inl ⟨by simp (decide := true) only [FX3_performOnGuards, a0, if_true, if_false], _, by simp (decide := true) only [FX10_doesAlt, g106 H, g107 H, g108 H, g103 H, e6, e7, e8, e3, a0, k3, s107 H, if_true, if_false] <;> rfl, ?_⟩
    simp (decide := true) only [FX3_performOnGuards, a0, if_true, if_false]
    rw [k5]
    exact (RO_B k4).M
theorem guard_34 (H : Hb f b) (h : RO reg mem tz tp tt tb l0 l1 g) : OX3_performOnGuards 34 reg mem tz tp tt tb l0 l1 ∧ OX10_doesAlt 34 (fb f 0) (emb b n g) ∧ ResG (FX3_performOnGuards 34 reg mem tz tp tt tb l0 l1) (FX10_doesAlt 34 (fb f 0) (emb b n g)) f b n mem tz tp tt tb l0 l1 := by
  have e6 : g 106 = reg 0 := h.1.2.2.2.2.2.2.1
  have e7 : g 107 = reg 1 := h.1.2.2.2.2.2.2.2.1
  have e8 : g 108 = reg 2 := h.1.2.2.2.2.2.2.2.2.1
  have e3 : g 103 = reg 4 := h.1.2.2.1
  have hw := h.1.1
  have hp0 := wPl hw
  have hp3 := wS3 hw
  have hp4 := wS4 hw
  have hp5 := wS5 hw
  obtain ⟨i1, i3, i4, i5, i6⟩ := wIdx hw
  have el := lay_ok (n := n) (g := g) (v := -2) H hp3
  have el2 := lay_ok (n := n) (g := upd g (reg 4 - 3).toNatClampNeg (-2)) (v := -5) H hp4
  refine ⟨by simp (decide := true) only [OX3_performOnGuards, pl_vp hp3, pl_vp hp4, if_true, if_false, true_implies, false_implies, implies_true, not_true_eq_false, not_false_eq_true, and_true, true_and, and_self, or_true, true_or], by simp (decide := true) only [OX10_doesAlt, og106 H, og107 H, og108 H, og103 H, g106 H, g107 H, g108 H, g103 H, e6, e7, e8, e3, olay H (Or.inl rfl), el, if_true, if_false, true_implies, false_implies, implies_true, not_true_eq_false, not_false_eq_true, and_true, true_and, and_self, or_true, true_or], ?_⟩
  refine Or.inl ⟨by simp (decide := true) only [FX3_performOnGuards, if_true, if_false], _, by simp (decide := true) only [FX10_doesAlt, g106 H, g107 H, g108 H, g103 H, e6, e7, e8, e3, el, el2, if_true, if_false] <;> rfl, ?_⟩
  simp (decide := true) only [FX3_performOnGuards, if_true, if_false]
  exact (RO_m (pl_cl hp4).1 (RO_m (pl_cl hp3).1 h)).M
theorem guard_36 (H : Hb f b) (h : RO reg mem tz tp tt tb l0 l1 g) : OX3_performOnGuards 36 reg mem tz tp tt tb l0 l1 ∧ OX10_doesAlt 36 (fb f 0) (emb b n g) ∧ ResG (FX3_performOnGuards 36 reg mem tz tp tt tb l0 l1) (FX10_doesAlt 36 (fb f 0) (emb b n g)) f b n mem tz tp tt tb l0 l1 := by
  have e6 : g 106 = reg 0 := h.1.2.2.2.2.2.2.1
  have e7 : g 107 = reg 1 := h.1.2.2.2.2.2.2.2.1
  have e8 : g 108 = reg 2 := h.1.2.2.2.2.2.2.2.2.1
  have e3 : g 103 = reg 4 := h.1.2.2.1
  have hw := h.1.1
  have hp0 := wPl hw
  have hp3 := wS3 hw
  have hp4 := wS4 hw
  have hp5 := wS5 hw
  obtain ⟨i1, i3, i4, i5, i6⟩ := wIdx hw
  by_cases a0 : reg 0 = 0
  · skip
    refine ⟨by simp (decide := true) only [OX3_performOnGuards, OX3_enableTime, a0, if_true, if_false, true_implies, false_implies, implies_true, not_true_eq_false, not_false_eq_true, and_true, true_and, and_self, or_true, true_or], by simp (decide := true) only [OX10_doesAlt, og106 H, og107 H, og108 H, og103 H, g106 H, g107 H, g108 H, g103 H, e6, e7, e8, e3, a0, os107 H, if_true, if_false, true_implies, false_implies, implies_true, not_true_eq_false, not_false_eq_true, and_true, true_and, and_self, or_true, true_or], ?_⟩
    refine Or.inl ⟨by simp (decide := true) only [FX3_performOnGuards, FX3_enableTime, a0, if_true, if_false], _, by simp (decide := true) only [FX10_doesAlt, g106 H, g107 H, g108 H, g103 H, e6, e7, e8, e3, a0, s107 H, if_true, if_false] <;> rfl, ?_⟩
    simp (decide := true) only [FX3_performOnGuards, FX3_enableTime, a0, if_true, if_false]
    exact (RO_B h).M
  · have et := at_ok (n := n) (g := g) H hp4
    have em := h.2.1 _ (pl_cl hp4).1
    have et5 := at_ok (n := n) (g := g) H hp5
    have em5 := h.2.1 _ (pl_cl hp5).1
    by_cases v : mem (reg 4 - 4).toNatClampNeg = -5
    · have el := lay_ok (n := n) (g := g) (v := -6) H hp4
      have el2 := lay_ok (n := n) (g := upd g (reg 4 - 4).toNatClampNeg (-6)) (v := reg 1) H hp5
      refine ⟨by simp (decide := true) only [OX3_performOnGuards, OX3_enableTime, a0, pl_vp hp4, pl_vp hp5, v, if_true, if_false, true_implies, false_implies, implies_true, not_true_eq_false, not_false_eq_true, and_true, true_and, and_self, or_true, true_or], by simp (decide := true) only [OX10_doesAlt, og106 H, og107 H, og108 H, og103 H, g106 H, g107 H, g108 H, g103 H, e6, e7, e8, e3, a0, OX10_enablesTime, FX10_enablesTime, og103 H, g103 H, e3, oat H (Or.inl rfl), et, em, et5, em5, olay H (Or.inl rfl), os107 H, v, el, el2, if_true, if_false, true_implies, false_implies, implies_true, not_true_eq_false, not_false_eq_true, and_true, true_and, and_self, or_true, true_or], ?_⟩
      refine Or.inl ⟨by simp (decide := true) only [FX3_performOnGuards, FX3_enableTime, a0, v, if_true, if_false], _, by simp (decide := true) only [FX10_doesAlt, g106 H, g107 H, g108 H, g103 H, e6, e7, e8, e3, a0, FX10_enablesTime, g103 H, e3, et, em, et5, em5, s107 H, v, el, el2, if_true, if_false] <;> rfl, ?_⟩
      simp (decide := true) only [FX3_performOnGuards, FX3_enableTime, a0, v, if_true, if_false]
      exact (RO_B (RO_m (pl_cl hp5).1 (RO_m (pl_cl hp4).1 h))).M
    · by_cases c : mem (reg 4 - 5).toNatClampNeg - reg 1 ≤ 0
      · skip
        refine ⟨by simp (decide := true) only [OX3_performOnGuards, OX3_enableTime, a0, pl_vp hp4, pl_vp hp5, v, after0 c, if_true, if_false, true_implies, false_implies, implies_true, not_true_eq_false, not_false_eq_true, and_true, true_and, and_self, or_true, true_or], by simp (decide := true) only [OX10_doesAlt, og106 H, og107 H, og108 H, og103 H, g106 H, g107 H, g108 H, g103 H, e6, e7, e8, e3, a0, OX10_enablesTime, FX10_enablesTime, og103 H, g103 H, e3, oat H (Or.inl rfl), et, em, et5, em5, olay H (Or.inl rfl), os107 H, v, c, if_true, if_false, true_implies, false_implies, implies_true, not_true_eq_false, not_false_eq_true, and_true, true_and, and_self, or_true, true_or], ?_⟩
        refine Or.inl ⟨by simp (decide := true) only [FX3_performOnGuards, FX3_enableTime, a0, v, after0 c, if_true, if_false], _, by simp (decide := true) only [FX10_doesAlt, g106 H, g107 H, g108 H, g103 H, e6, e7, e8, e3, a0, FX10_enablesTime, g103 H, e3, et, em, et5, em5, s107 H, v, c, if_true, if_false] <;> rfl, ?_⟩
        simp (decide := true) only [FX3_performOnGuards, FX3_enableTime, a0, v, after0 c, if_true, if_false]
        exact (RO_B h).M
      · have el := lay_ok (n := n) (g := g) (v := reg 1) H hp5
        refine ⟨by simp (decide := true) only [OX3_performOnGuards, OX3_enableTime, a0, pl_vp hp4, pl_vp hp5, v, after1 c, if_true, if_false, true_implies, false_implies, implies_true, not_true_eq_false, not_false_eq_true, and_true, true_and, and_self, or_true, true_or], by simp (decide := true) only [OX10_doesAlt, og106 H, og107 H, og108 H, og103 H, g106 H, g107 H, g108 H, g103 H, e6, e7, e8, e3, a0, OX10_enablesTime, FX10_enablesTime, og103 H, g103 H, e3, oat H (Or.inl rfl), et, em, et5, em5, olay H (Or.inl rfl), os107 H, v, c, el, if_true, if_false, true_implies, false_implies, implies_true, not_true_eq_false, not_false_eq_true, and_true, true_and, and_self, or_true, true_or], ?_⟩
        refine Or.inl ⟨by simp (decide := true) only [FX3_performOnGuards, FX3_enableTime, a0, v, after1 c, if_true, if_false], _, by simp (decide := true) only [FX10_doesAlt, g106 H, g107 H, g108 H, g103 H, e6, e7, e8, e3, a0, FX10_enablesTime, g103 H, e3, et, em, et5, em5, s107 H, v, c, el, if_true, if_false] <;> rfl, ?_⟩
        simp (decide := true) only [FX3_performOnGuards, FX3_enableTime, a0, v, after1 c, if_true, if_false]
        exact (RO_B (RO_m (pl_cl hp5).1 h)).M
theorem guard_37 (H : Hb f b) (h : RO reg mem tz tp tt tb l0 l1 g) : OX3_performOnGuards 37 reg mem tz tp tt tb l0 l1 ∧ OX10_doesAlt 37 (fb f 0) (emb b n g) ∧ ResG (FX3_performOnGuards 37 reg mem tz tp tt tb l0 l1) (FX10_doesAlt 37 (fb f 0) (emb b n g)) f b n mem tz tp tt tb l0 l1 := by
  have e6 : g 106 = reg 0 := h.1.2.2.2.2.2.2.1
  have e7 : g 107 = reg 1 := h.1.2.2.2.2.2.2.2.1
  have e8 : g 108 = reg 2 := h.1.2.2.2.2.2.2.2.2.1
  have e3 : g 103 = reg 4 := h.1.2.2.1
  have hw := h.1.1
  have hp0 := wPl hw
  have hp3 := wS3 hw
  have hp4 := wS4 hw
  have hp5 := wS5 hw
  obtain ⟨i1, i3, i4, i5, i6⟩ := wIdx hw
  obtain ⟨k1, k2, g', k3, k4, k5⟩ := p_fire0 (n := n) H h
  obtain ⟨j1, j2, g2, j3, j4, j5⟩ := p_fire1 (n := n) H h
  by_cases a0 : reg 1 = 0
  · skip
    refine ⟨by simp (decide := true) only [OX3_performOnGuards, a0, k1, if_true, if_false, true_implies, false_implies, implies_true, not_true_eq_false, not_false_eq_true, and_true, true_and, and_self, or_true, true_or], by simp (decide := true) only [OX10_doesAlt, og106 H, og107 H, og108 H, og103 H, g106 H, g107 H, g108 H, g103 H, e6, e7, e8, e3, a0, k2, k3, os107 H, os108 H, s107 H, if_true, if_false, true_implies, false_implies, implies_true, not_true_eq_false, not_false_eq_true, and_true, true_and, and_self, or_true, true_or], ?_⟩
    refine Or.inl ⟨by simp (decide := true) only [FX3_performOnGuards, a0, if_true, if_false], _, by simp (decide := true) only [FX10_doesAlt, g106 H, g107 H, g108 H, g103 H, e6, e7, e8, e3, a0, k3, s107 H, s108 H, if_true, if_false] <;> rfl, ?_⟩
    simp (decide := true) only [FX3_performOnGuards, a0, if_true, if_false]
    exact (RO_C (RO_B k4)).M
  · have et := at_ok (n := n) (g := g) H hp4
    have em := h.2.1 _ (pl_cl hp4).1
    have et5 := at_ok (n := n) (g := g) H hp5
    have em5 := h.2.1 _ (pl_cl hp5).1
    by_cases v : mem (reg 4 - 4).toNatClampNeg = -6
    · by_cases c : mem (reg 4 - 5).toNatClampNeg - reg 2 ≤ 0
      · skip
        refine ⟨by simp (decide := true) only [OX3_performOnGuards, a0, pl_vp hp4, pl_vp hp5, v, after0 c, k1, if_true, if_false, true_implies, false_implies, implies_true, not_true_eq_false, not_false_eq_true, and_true, true_and, and_self, or_true, true_or], by simp (decide := true) only [OX10_doesAlt, og106 H, og107 H, og108 H, og103 H, g106 H, g107 H, g108 H, g103 H, e6, e7, e8, e3, a0, oat H (Or.inl rfl), et, em, et5, em5, os107 H, os108 H, s107 H, v, c, k2, k3, if_true, if_false, true_implies, false_implies, implies_true, not_true_eq_false, not_false_eq_true, and_true, true_and, and_self, or_true, true_or], ?_⟩
        refine Or.inl ⟨by simp (decide := true) only [FX3_performOnGuards, a0, v, after0 c, if_true, if_false], _, by simp (decide := true) only [FX10_doesAlt, g106 H, g107 H, g108 H, g103 H, e6, e7, e8, e3, a0, et, em, et5, em5, s107 H, s108 H, v, c, k3, if_true, if_false] <;> rfl, ?_⟩
        simp (decide := true) only [FX3_performOnGuards, a0, v, after0 c, if_true, if_false]
        exact (RO_C (RO_B k4)).M
      · skip
        refine ⟨by simp (decide := true) only [OX3_performOnGuards, a0, pl_vp hp4, pl_vp hp5, v, after1 c, j1, if_true, if_false, true_implies, false_implies, implies_true, not_true_eq_false, not_false_eq_true, and_true, true_and, and_self, or_true, true_or], by simp (decide := true) only [OX10_doesAlt, og106 H, og107 H, og108 H, og103 H, g106 H, g107 H, g108 H, g103 H, e6, e7, e8, e3, a0, oat H (Or.inl rfl), et, em, et5, em5, os107 H, os108 H, s107 H, v, c, j2, j3, if_true, if_false, true_implies, false_implies, implies_true, not_true_eq_false, not_false_eq_true, and_true, true_and, and_self, or_true, true_or], ?_⟩
        refine Or.inl ⟨by simp (decide := true) only [FX3_performOnGuards, a0, v, after1 c, if_true, if_false], _, by simp (decide := true) only [FX10_doesAlt, g106 H, g107 H, g108 H, g103 H, e6, e7, e8, e3, a0, et, em, et5, em5, s107 H, s108 H, v, c, j3, if_true, if_false] <;> rfl, ?_⟩
        simp (decide := true) only [FX3_performOnGuards, a0, v, after1 c, if_true, if_false]
        exact (RO_C (RO_B j4)).M
    · skip
      refine ⟨by simp (decide := true) only [OX3_performOnGuards, a0, pl_vp hp4, pl_vp hp5, v, k1, if_true, if_false, true_implies, false_implies, implies_true, not_true_eq_false, not_false_eq_true, and_true, true_and, and_self, or_true, true_or], by simp (decide := true) only [OX10_doesAlt, og106 H, og107 H, og108 H, og103 H, g106 H, g107 H, g108 H, g103 H, e6, e7, e8, e3, a0, oat H (Or.inl rfl), et, em, et5, em5, os107 H, os108 H, s107 H, v, k2, k3, if_true, if_false, true_implies, false_implies, implies_true, not_true_eq_false, not_false_eq_true, and_true, true_and, and_self, or_true, true_or], ?_⟩
      refine Or.inl ⟨by simp (decide := true) only [FX3_performOnGuards, a0, v, if_true, if_false], _, by simp (decide := true) only [FX10_doesAlt, g106 H, g107 H, g108 H, g103 H, e6, e7, e8, e3, a0, et, em, et5, em5, s107 H, s108 H, v, k3, if_true, if_false] <;> rfl, ?_⟩
      simp (decide := true) only [FX3_performOnGuards, a0, v, if_true, if_false]
      exact (RO_C (RO_B k4)).M
theorem guard_35 (H : Hb f b) (h : RO reg mem tz tp tt tb l0 l1 g) : OX3_performOnGuards 35 reg mem tz tp tt tb l0 l1 ∧ OX10_doesAlt 35 (fb f 0) (emb b n g) ∧ ResG (FX3_performOnGuards 35 reg mem tz tp tt tb l0 l1) (FX10_doesAlt 35 (fb f 0) (emb b n g)) f b n mem tz tp tt tb l0 l1 := by
  have e6 : g 106 = reg 0 := h.1.2.2.2.2.2.2.1
  have e7 : g 107 = reg 1 := h.1.2.2.2.2.2.2.2.1
  have e8 : g 108 = reg 2 := h.1.2.2.2.2.2.2.2.2.1
  have e3 : g 103 = reg 4 := h.1.2.2.1
  have hw := h.1.1
  have hp0 := wPl hw
  have hp3 := wS3 hw
  have hp4 := wS4 hw
  have hp5 := wS5 hw
  obtain ⟨i1, i3, i4, i5, i6⟩ := wIdx hw
  have e9 : ∀ x, upd g (reg 4).toNatClampNeg x 96 = reg 18 := fun x => (pk_un (by omega)).trans h.2.2.2.2.1.1
  have el := lay_ok (n := n) (g := g) (v := -1) H hp0
  have h2 := RO_m (x := -1) (pl_cl hp0).1 h
  have et4 := at_ok (n := n) (g := upd g (reg 4).toNatClampNeg (-1)) H hp4
  have em4 : upd g (reg 4).toNatClampNeg (-1) (reg 4 - 4).toNatClampNeg = mem (reg 4 - 4).toNatClampNeg := (pk_un (by omega)).trans (h.2.1 _ (pl_cl hp4).1)
  have et5 := at_ok (n := n) (g := upd g (reg 4).toNatClampNeg (-1)) H hp5
  have em5 : upd g (reg 4).toNatClampNeg (-1) (reg 4 - 5).toNatClampNeg = mem (reg 4 - 5).toNatClampNeg := (pk_un (by omega)).trans (h.2.1 _ (pl_cl hp5).1)
  have et3 := at_ok (n := n) (g := upd g (reg 4).toNatClampNeg (-1)) H hp3
  have em3 : upd g (reg 4).toNatClampNeg (-1) (reg 4 - 3).toNatClampNeg = mem (reg 4 - 3).toNatClampNeg := (pk_un (by omega)).trans (h.2.1 _ (pl_cl hp3).1)
  have el4 := lay_ok (n := n) (g := upd g (reg 4).toNatClampNeg (-1)) (v := -5) H hp4
  have h4 : RO reg (upd (upd mem (reg 4 - 4).toNatClampNeg (-5)) (reg 4).toNatClampNeg (-1)) tz tp tt tb l0 l1 (upd (upd g (reg 4).toNatClampNeg (-1)) (reg 4 - 4).toNatClampNeg (-5)) := by
    rw [upd_comm (show (reg 4 - 4).toNatClampNeg ≠ (reg 4).toNatClampNeg by omega)]
    exact RO_m (pl_cl hp4).1 h2
  have el3 := lay_ok (n := n) (g := upd g (reg 4).toNatClampNeg (-1)) (v := -3) H hp3
  have h3 := RO_m (x := -3) (pl_cl hp3).1 h2
  have emm : upd (FX3_goOff reg (upd mem (reg 4 - 3).toNatClampNeg (-3))).2.2 (reg 4).toNatClampNeg (-1) = (FX3_goOff reg (upd (upd mem (reg 4).toNatClampNeg (-1)) (reg 4 - 3).toNatClampNeg (-3))).2.2 := by
    show upd (upd (upd mem (reg 4 - 3).toNatClampNeg (-3)) (reg 4 - 1).toNatClampNeg (reg 3)) (reg 4).toNatClampNeg (-1) = upd (upd (upd mem (reg 4).toNatClampNeg (-1)) (reg 4 - 3).toNatClampNeg (-3)) (reg 4 - 1).toNatClampNeg (reg 3)
    rw [upd_comm (show (reg 4 - 1).toNatClampNeg ≠ (reg 4).toNatClampNeg by omega), upd_comm (show (reg 4 - 3).toNatClampNeg ≠ (reg 4).toNatClampNeg by omega)]
  have oo : OX3_goOff reg (upd mem (reg 4 - 3).toNatClampNeg (-3)) := pl_vp (wS1 hw)
  have er : (FX3_goOff reg (upd mem (reg 4 - 3).toNatClampNeg (-3))).2.1 = (FX3_goOff reg (upd (upd mem (reg 4).toNatClampNeg (-1)) (reg 4 - 3).toNatClampNeg (-3))).2.1 := rfl
  have n64 : ¬ (-6 : Int32) = -5 := by decide
  by_cases v : mem (reg 4 - 4).toNatClampNeg = -6
  · by_cases c : reg 18 - mem (reg 4 - 5).toNatClampNeg ≤ 0
    · by_cases v3 : mem (reg 4 - 3).toNatClampNeg = -4
      · skip
        refine ⟨by simp (decide := true) only [OX3_performOnGuards, OX3_waitForGuardOrTime, FX3_waitForGuardOrTime, OX3_waitForGuardOrTime_b2, FX3_waitForGuardOrTime_b2, OX3_waitForGuardOrTime_b5, FX3_waitForGuardOrTime_b5, pl_vp hp4, pl_vp hp5, pl_vp hp3, pl_vp hp0, v, after0 c, v3, if_true, if_false, true_implies, false_implies, implies_true, not_true_eq_false, not_false_eq_true, and_true, true_and, and_self, or_true, true_or], by simp (decide := true) only [OX10_doesAlt, og106 H, og107 H, og108 H, og103 H, g106 H, g107 H, g108 H, g103 H, e6, e7, e8, e3, OX10_waitsForOneInTime, FX10_waitsForOneInTime, OX10_waitsForOneInTime_b3, FX10_waitsForOneInTime_b3, olay H (Or.inl rfl), oat H (Or.inl rfl), el, et4, em4, et5, em5, et3, em3, el3, el4, og96 H, g96 H, e9, oclears H, ooff H (Or.inl rfl), v, c, v3, if_true, if_false, true_implies, false_implies, implies_true, not_true_eq_false, not_false_eq_true, and_true, true_and, and_self, or_true, true_or], ?_⟩
        refine Or.inl ⟨by simp (decide := true) only [FX3_performOnGuards, FX3_waitForGuardOrTime, FX3_waitForGuardOrTime_b2, FX3_waitForGuardOrTime_b5, v, after0 c, v3, if_true, if_false], _, by simp (decide := true) only [FX10_doesAlt, g106 H, g107 H, g108 H, g103 H, e6, e7, e8, e3, FX10_waitsForOneInTime, FX10_waitsForOneInTime_b3, el, et4, em4, et5, em5, et3, em3, el3, el4, g96 H, e9, clears_e H, v, c, v3, if_true, if_false] <;> rfl, ?_⟩
        simp (decide := true) only [FX3_performOnGuards, FX3_waitForGuardOrTime, FX3_waitForGuardOrTime_b2, FX3_waitForGuardOrTime_b5, v, after0 c, v3, if_true, if_false]
        exact (RO_clear h4).M
      · obtain ⟨w1, w2, w3, w4⟩ := own_R h3.1
        have em6 : upd (upd g (reg 4).toNatClampNeg (-1)) (reg 4 - 3).toNatClampNeg (-3) (reg 4 - 5).toNatClampNeg = mem (reg 4 - 5).toNatClampNeg := (pk_un (by omega)).trans em5
        have et6 := at_ok (n := n) (g := upd (upd g (reg 4).toNatClampNeg (-1)) (reg 4 - 3).toNatClampNeg (-3)) H hp5
        have hT := h3.2.2.2.2.2.1
        by_cases cf : tz 0 < 12
        · obtain ⟨s, hs, h0⟩ : ∃ s, s < 12 ∧ tz 0 = nI s := by
            obtain ⟨s, r1, r2, -⟩ := id hT
            refine ⟨s, ?_, r2⟩
            rw [r2] at cf
            rcases Nat.lt_or_ge s 12 with q | q
            · exact q
            · exact absurd cf (nI_nlt (a := s) (b := 12) q (by omega))
          obtain ⟨p1, p2, g', p3, p4, p5⟩ := p_put (n := n) H hT h0 hs (t := mem (reg 4 - 5).toNatClampNeg) (a := 1) w2 (Or.inr rfl)
          have h6 := RO_put_ h3 p4 p5
          have eo := off_e (n := n) H h6.1
          obtain ⟨o1, o2⟩ := RM_goOff h6
          refine ⟨by simp (decide := true) only [OX3_performOnGuards, OX3_waitForGuardOrTime, FX3_waitForGuardOrTime, OX3_waitForGuardOrTime_b2, FX3_waitForGuardOrTime_b2, OX3_waitForGuardOrTime_b5, FX3_waitForGuardOrTime_b5, pl_vp hp4, pl_vp hp5, pl_vp hp3, pl_vp hp0, v, after0 c, v3, FX6_isFull, cf, p1, oo, if_true, if_false, true_implies, false_implies, implies_true, not_true_eq_false, not_false_eq_true, and_true, true_and, and_self, or_true, true_or], by simp (decide := true) only [OX10_doesAlt, og106 H, og107 H, og108 H, og103 H, g106 H, g107 H, g108 H, g103 H, e6, e7, e8, e3, OX10_waitsForOneInTime, FX10_waitsForOneInTime, OX10_waitsForOneInTime_b3, FX10_waitsForOneInTime_b3, olay H (Or.inl rfl), oat H (Or.inl rfl), el, et4, em4, et5, em5, et3, em3, el3, el4, og96 H, g96 H, e9, oclears H, ooff H (Or.inl rfl), v, c, v3, oown H, own_e H, w1, et6, em6, p2, p3, eo, if_true, if_false, true_implies, false_implies, implies_true, not_true_eq_false, not_false_eq_true, and_true, true_and, and_self, or_true, true_or], ?_⟩
          refine Or.inl ⟨by simp (decide := true) only [FX3_performOnGuards, FX3_waitForGuardOrTime, FX3_waitForGuardOrTime_b2, FX3_waitForGuardOrTime_b5, v, after0 c, v3, FX6_isFull, cf, if_true, if_false], _, by simp (decide := true) only [FX10_doesAlt, g106 H, g107 H, g108 H, g103 H, e6, e7, e8, e3, FX10_waitsForOneInTime, FX10_waitsForOneInTime_b3, el, et4, em4, et5, em5, et3, em3, el3, el4, g96 H, e9, clears_e H, v, c, v3, own_e H, w1, et6, em6, p3, eo, if_true, if_false] <;> rfl, ?_⟩
          simp (decide := true) only [FX3_performOnGuards, FX3_waitForGuardOrTime, FX3_waitForGuardOrTime_b2, FX3_waitForGuardOrTime_b5, v, after0 c, v3, FX6_isFull, cf, if_true, if_false]
          rw [emm, er]
          exact RM_clear o2
        · obtain ⟨p1, p2⟩ := p_putFull (n := n) (z := 0) (p := FX3_own reg) (t := mem (reg 4 - 5).toNatClampNeg) (a := 1) hT cf H
          obtain ⟨g', p3⟩ := off_1 (n := n) (g := upd (upd g (reg 4).toNatClampNeg (-1)) (reg 4 - 3).toNatClampNeg (-3)) H
          have p4 := ooff (f := f) (z := 1) H (Or.inr rfl) (m := emb b n (upd (upd g (reg 4).toNatClampNeg (-1)) (reg 4 - 3).toNatClampNeg (-3)))
          refine ⟨by simp (decide := true) only [OX3_performOnGuards, OX3_waitForGuardOrTime, FX3_waitForGuardOrTime, OX3_waitForGuardOrTime_b2, FX3_waitForGuardOrTime_b2, OX3_waitForGuardOrTime_b5, FX3_waitForGuardOrTime_b5, pl_vp hp4, pl_vp hp5, pl_vp hp3, pl_vp hp0, v, after0 c, v3, FX6_isFull, cf, if_true, if_false, true_implies, false_implies, implies_true, not_true_eq_false, not_false_eq_true, and_true, true_and, and_self, or_true, true_or], by simp (decide := true) only [OX10_doesAlt, og106 H, og107 H, og108 H, og103 H, g106 H, g107 H, g108 H, g103 H, e6, e7, e8, e3, OX10_waitsForOneInTime, FX10_waitsForOneInTime, OX10_waitsForOneInTime_b3, FX10_waitsForOneInTime_b3, olay H (Or.inl rfl), oat H (Or.inl rfl), el, et4, em4, et5, em5, et3, em3, el3, el4, og96 H, g96 H, e9, oclears H, ooff H (Or.inl rfl), v, c, v3, oown H, own_e H, w1, et6, em6, p1, p2, p3, p4, if_true, if_false, true_implies, false_implies, implies_true, not_true_eq_false, not_false_eq_true, and_true, true_and, and_self, or_true, true_or], ?_⟩
          refine Or.inr ⟨by simp (decide := true) only [FX3_performOnGuards, FX3_waitForGuardOrTime, FX3_waitForGuardOrTime_b2, FX3_waitForGuardOrTime_b5, v, after0 c, v3, FX6_isFull, cf, if_true, if_false], by simp (decide := true) only [FX3_performOnGuards, FX3_waitForGuardOrTime, FX3_waitForGuardOrTime_b2, FX3_waitForGuardOrTime_b5, v, after0 c, v3, FX6_isFull, cf, if_true, if_false], _, by simp (decide := true) only [FX10_doesAlt, g106 H, g107 H, g108 H, g103 H, e6, e7, e8, e3, FX10_waitsForOneInTime, FX10_waitsForOneInTime_b3, el, et4, em4, et5, em5, et3, em3, el3, el4, g96 H, e9, clears_e H, v, c, v3, own_e H, w1, et6, em6, p2, p3, if_true, if_false] <;> rfl⟩
    · have el7 := lay_ok (n := n) (g := upd g (reg 4).toNatClampNeg (-1)) (v := -4) H hp3
      have el8 := lay_ok (n := n) (g := upd (upd g (reg 4).toNatClampNeg (-1)) (reg 4 - 3).toNatClampNeg (-4)) (v := reg 18) H hp5
      have h8 := RO_m (x := reg 18) (pl_cl hp5).1 (RO_m (x := -4) (pl_cl hp3).1 h2)
      have e10 : upd (upd g (reg 4).toNatClampNeg (-1)) (reg 4 - 3).toNatClampNeg (-4) 96 = reg 18 := (pk_un (by omega)).trans (e9 _)
      have e8m : upd (upd (upd mem (reg 4 - 3).toNatClampNeg (-4)) (reg 4 - 5).toNatClampNeg (reg 18)) (reg 4).toNatClampNeg (-1) = upd (upd (upd mem (reg 4).toNatClampNeg (-1)) (reg 4 - 3).toNatClampNeg (-4)) (reg 4 - 5).toNatClampNeg (reg 18) := by
        rw [upd_comm (show (reg 4 - 5).toNatClampNeg ≠ (reg 4).toNatClampNeg by omega), upd_comm (show (reg 4 - 3).toNatClampNeg ≠ (reg 4).toNatClampNeg by omega)]
      refine ⟨by simp (decide := true) only [OX3_performOnGuards, OX3_waitForGuardOrTime, FX3_waitForGuardOrTime, OX3_waitForGuardOrTime_b2, FX3_waitForGuardOrTime_b2, OX3_waitForGuardOrTime_b5, FX3_waitForGuardOrTime_b5, pl_vp hp4, pl_vp hp5, pl_vp hp3, pl_vp hp0, v, after1 c, if_true, if_false, true_implies, false_implies, implies_true, not_true_eq_false, not_false_eq_true, and_true, true_and, and_self, or_true, true_or], by simp (decide := true) only [OX10_doesAlt, og106 H, og107 H, og108 H, og103 H, g106 H, g107 H, g108 H, g103 H, e6, e7, e8, e3, OX10_waitsForOneInTime, FX10_waitsForOneInTime, OX10_waitsForOneInTime_b3, FX10_waitsForOneInTime_b3, olay H (Or.inl rfl), oat H (Or.inl rfl), el, et4, em4, et5, em5, et3, em3, el3, el4, og96 H, g96 H, e9, oclears H, ooff H (Or.inl rfl), v, c, el7, e10, el8, if_true, if_false, true_implies, false_implies, implies_true, not_true_eq_false, not_false_eq_true, and_true, true_and, and_self, or_true, true_or], ?_⟩
      refine Or.inl ⟨by simp (decide := true) only [FX3_performOnGuards, FX3_waitForGuardOrTime, FX3_waitForGuardOrTime_b2, FX3_waitForGuardOrTime_b5, v, after1 c, if_true, if_false], _, by simp (decide := true) only [FX10_doesAlt, g106 H, g107 H, g108 H, g103 H, e6, e7, e8, e3, FX10_waitsForOneInTime, FX10_waitsForOneInTime_b3, el, et4, em4, et5, em5, et3, em3, el3, el4, g96 H, e9, clears_e H, v, c, el7, e10, el8, if_true, if_false] <;> rfl, ?_⟩
      simp (decide := true) only [FX3_performOnGuards, FX3_waitForGuardOrTime, FX3_waitForGuardOrTime_b2, FX3_waitForGuardOrTime_b5, v, after1 c, if_true, if_false]
      rw [e8m]
      exact (RO_clear h8).M
  · by_cases v3 : mem (reg 4 - 3).toNatClampNeg = -4
    · skip
      refine ⟨by simp (decide := true) only [OX3_performOnGuards, OX3_waitForGuardOrTime, FX3_waitForGuardOrTime, OX3_waitForGuardOrTime_b2, FX3_waitForGuardOrTime_b2, OX3_waitForGuardOrTime_b5, FX3_waitForGuardOrTime_b5, pl_vp hp4, pl_vp hp5, pl_vp hp3, pl_vp hp0, v, v3, if_true, if_false, true_implies, false_implies, implies_true, not_true_eq_false, not_false_eq_true, and_true, true_and, and_self, or_true, true_or], by simp (decide := true) only [OX10_doesAlt, og106 H, og107 H, og108 H, og103 H, g106 H, g107 H, g108 H, g103 H, e6, e7, e8, e3, OX10_waitsForOneInTime, FX10_waitsForOneInTime, OX10_waitsForOneInTime_b3, FX10_waitsForOneInTime_b3, olay H (Or.inl rfl), oat H (Or.inl rfl), el, et4, em4, et5, em5, et3, em3, el3, el4, og96 H, g96 H, e9, oclears H, ooff H (Or.inl rfl), v, v3, if_true, if_false, true_implies, false_implies, implies_true, not_true_eq_false, not_false_eq_true, and_true, true_and, and_self, or_true, true_or], ?_⟩
      refine Or.inl ⟨by simp (decide := true) only [FX3_performOnGuards, FX3_waitForGuardOrTime, FX3_waitForGuardOrTime_b2, FX3_waitForGuardOrTime_b5, v, v3, if_true, if_false], _, by simp (decide := true) only [FX10_doesAlt, g106 H, g107 H, g108 H, g103 H, e6, e7, e8, e3, FX10_waitsForOneInTime, FX10_waitsForOneInTime_b3, el, et4, em4, et5, em5, et3, em3, el3, el4, g96 H, e9, clears_e H, v, v3, if_true, if_false] <;> rfl, ?_⟩
      simp (decide := true) only [FX3_performOnGuards, FX3_waitForGuardOrTime, FX3_waitForGuardOrTime_b2, FX3_waitForGuardOrTime_b5, v, v3, if_true, if_false]
      exact (RO_clear h4).M
    · have eo := off_e (n := n) H h3.1
      obtain ⟨o1, o2⟩ := RM_goOff h3
      refine ⟨by simp (decide := true) only [OX3_performOnGuards, OX3_waitForGuardOrTime, FX3_waitForGuardOrTime, OX3_waitForGuardOrTime_b2, FX3_waitForGuardOrTime_b2, OX3_waitForGuardOrTime_b5, FX3_waitForGuardOrTime_b5, pl_vp hp4, pl_vp hp5, pl_vp hp3, pl_vp hp0, v, v3, oo, if_true, if_false, true_implies, false_implies, implies_true, not_true_eq_false, not_false_eq_true, and_true, true_and, and_self, or_true, true_or], by simp (decide := true) only [OX10_doesAlt, og106 H, og107 H, og108 H, og103 H, g106 H, g107 H, g108 H, g103 H, e6, e7, e8, e3, OX10_waitsForOneInTime, FX10_waitsForOneInTime, OX10_waitsForOneInTime_b3, FX10_waitsForOneInTime_b3, olay H (Or.inl rfl), oat H (Or.inl rfl), el, et4, em4, et5, em5, et3, em3, el3, el4, og96 H, g96 H, e9, oclears H, ooff H (Or.inl rfl), v, v3, eo, if_true, if_false, true_implies, false_implies, implies_true, not_true_eq_false, not_false_eq_true, and_true, true_and, and_self, or_true, true_or], ?_⟩
      refine Or.inl ⟨by simp (decide := true) only [FX3_performOnGuards, FX3_waitForGuardOrTime, FX3_waitForGuardOrTime_b2, FX3_waitForGuardOrTime_b5, v, v3, if_true, if_false], _, by simp (decide := true) only [FX10_doesAlt, g106 H, g107 H, g108 H, g103 H, e6, e7, e8, e3, FX10_waitsForOneInTime, FX10_waitsForOneInTime_b3, el, et4, em4, et5, em5, et3, em3, el3, el4, g96 H, e9, clears_e H, v, v3, eo, if_true, if_false] <;> rfl, ?_⟩
      simp (decide := true) only [FX3_performOnGuards, FX3_waitForGuardOrTime, FX3_waitForGuardOrTime_b2, FX3_waitForGuardOrTime_b5, v, v3, if_true, if_false]
      rw [emm, er]
      exact RM_clear o2
theorem guard_38 (H : Hb f b) (h : RO reg mem tz tp tt tb l0 l1 g) : OX3_performOnGuards 38 reg mem tz tp tt tb l0 l1 ∧ OX10_doesAlt 38 (fb f 0) (emb b n g) ∧ ResG (FX3_performOnGuards 38 reg mem tz tp tt tb l0 l1) (FX10_doesAlt 38 (fb f 0) (emb b n g)) f b n mem tz tp tt tb l0 l1 := by
  have e6 : g 106 = reg 0 := h.1.2.2.2.2.2.2.1
  have e7 : g 107 = reg 1 := h.1.2.2.2.2.2.2.2.1
  have e8 : g 108 = reg 2 := h.1.2.2.2.2.2.2.2.2.1
  have e3 : g 103 = reg 4 := h.1.2.2.1
  have hw := h.1.1
  have hp0 := wPl hw
  have hp3 := wS3 hw
  have hp4 := wS4 hw
  have hp5 := wS5 hw
  obtain ⟨i1, i3, i4, i5, i6⟩ := wIdx hw
  refine ⟨by simp (decide := true) only [OX3_performOnGuards, if_true, if_false, true_implies, false_implies, implies_true, not_true_eq_false, not_false_eq_true, and_true, true_and, and_self, or_true, true_or], by simp (decide := true) only [OX10_doesAlt, og106 H, og107 H, og108 H, og103 H, g106 H, g107 H, g108 H, g103 H, e6, e7, e8, e3, if_true, if_false, true_implies, false_implies, implies_true, not_true_eq_false, not_false_eq_true, and_true, true_and, and_self, or_true, true_or], ?_⟩
  refine Or.inr ⟨by simp (decide := true) only [FX3_performOnGuards, if_true, if_false], by simp (decide := true) only [FX3_performOnGuards, if_true, if_false], g, by simp (decide := true) only [FX10_doesAlt, g106 H, g107 H, g108 H, g103 H, e6, e7, e8, e3, needs_bad, if_true, if_false]⟩
theorem p_guard (H : Hb f b) (h : RO reg mem tz tp tt tb l0 l1 g) {op : Int32} {k : Nat} (h1 : 27 ≤ k) (h2 : k < 39) (e : op = nI k) : OX3_performOnGuards op reg mem tz tp tt tb l0 l1 ∧ OX10_doesAlt op (fb f 0) (emb b n g) ∧ ResG (FX3_performOnGuards op reg mem tz tp tt tb l0 l1) (FX10_doesAlt op (fb f 0) (emb b n g)) f b n mem tz tp tt tb l0 l1 := by
  subst e
  rcases (show k = 27 ∨ k = 28 ∨ k = 29 ∨ k = 30 ∨ k = 31 ∨ k = 32 ∨ k = 33 ∨ k = 34 ∨ k = 35 ∨ k = 36 ∨ k = 37 ∨ k = 38 by omega) with rfl | rfl | rfl | rfl | rfl | rfl | rfl | rfl | rfl | rfl | rfl | rfl
  · exact guard_27 H h
  · exact guard_28 H h
  · exact guard_29 H h
  · exact guard_30 H h
  · exact guard_31 H h
  · exact guard_32 H h
  · exact guard_33 H h
  · exact guard_34 H h
  · exact guard_35 H h
  · exact guard_36 H h
  · exact guard_37 H h
  · exact guard_38 H h
end GRD
