/-! PURE: a line, whole, of every kind (GENERATED, wip/gen/p/85.py) -/
section LNW
variable {R f tp tr nm un up us prg op num ln la snd slk rcv rlk rm rw_ rp ra mem rop rnum rla rmem rruns rj asP asB : mF} {fl named rlb asked : mFl} {S lo L K N U J : Nat}
theorem ln_39 (hN : NMS nm named) (hT : TP tp tr) (hS : S ≤ 700) (h : TK S lo R f fl) (h8 : ¬ f 8 = 0) (hP : PR L K N U J R f un up us prg op num ln la snd slk rcv rlk rm rw_ rp ra mem rop rnum rla rmem rruns rj rlb asked asP asB) (k5 : R 5 = 2) (q4 : FX5_name R nm = 39) : OX5_readLine tp R nm un up us prg op num ln la snd slk rcv rlk rm rw_ rp ra mem ∧ (LnOk S lo R f fl tp tr nm named un up us prg op num ln la snd slk rcv rlk rm rw_ rp ra mem rop rnum rla rmem rruns rj rlb asked asP asB ∨ LnFt R f fl tp tr nm named un up us prg op num ln la snd slk rcv rlk rm rw_ rp ra mem rop rnum rla rmem rruns rj rlb asked asP asB) := by
  obtain ⟨⟨p1, p2, p3, p4⟩, ⟨p5, p6, p7, p8, p9⟩, ⟨p10, p11, p12, p13⟩, ⟨i1, i2, i3, i4, i5⟩, c1, c2, c3, c4, ⟨g0, c5⟩, ⟨g1, c6⟩, c7⟩ := hP
  obtain ⟨q1, q2, q3, -⟩ := p_name hN h
  have r4 : FX10_nameHere f fl named = 39 := q3.trans q4
  have zm : ¬ FX10_nameHere f fl named = -1 := by rw [q3, q4]; decide
  obtain ⟨a1, a2, a3⟩ := p_slice (prg := prg) hT hS h p1 k5 p2
  have key : OX5_takeSign 59 tp (FX5_readSlice tp R prg).2.1 ∧ (LnOk S lo R f fl tp tr nm named un up us prg op num ln la snd slk rcv rlk rm rw_ rp ra mem rop rnum rla rmem rruns rj rlb asked asP asB ∨ LnFt R f fl tp tr nm named un up us prg op num ln la snd slk rcv rlk rm rw_ rp ra mem rop rnum rla rmem rruns rj rlb asked asP asB) := by
    have ho : ∀ x : Int32 × mF × mFl, FX10_readsSlice f fl tr = x → (x.1 = 0 ∨ x.1 = 1) → OX10_readsLine f fl named tr rop rnum rla rmem rruns rj rlb asked asP asB := by
      intro x e hx
      unfold OX10_readsLine
      exact ⟨q2, ⟨fun z => absurd z zm, fun _ => ⟨fun _ => ⟨a2, by rw [e]; exact hx⟩, fun z => absurd r4 z⟩⟩⟩
    rcases a3 with ⟨v, R1, f1, fl1, e1, e2, e3, e4, e5⟩ | ⟨R1, prg1, f1, fl1, e1, e2, e3, e4⟩
    · rw [e1]
      refine asm_ok (prg' := upd prg 0 v) (f1 := f1) (fl1 := fl1) hT hS h8 ?_ (ho _ e2 (Or.inr rfl)) e3 ?_ ?_ ⟨L, K, N, U, J, ⟨?_, ?_, ?_, ?_⟩, ⟨?_, ?_, ?_, ?_, ?_⟩, ⟨?_, ?_, ?_, ?_⟩, ⟨i1, i2, i3, i4, i5⟩, c1, c2, c3, c4, ⟨g0, c5⟩, ⟨g1, c6⟩, c7⟩
      · unfold FX10_readsLine
        refine ((if_neg zm).trans (if_pos r4)).trans ?_
        rw [e2]
      · exact fun k x1 x2 x3 => (e5 k (by omega) (by omega) (by omega) (by omega) x3).trans ((pk_un (by omega)).trans (pk_un x2))
      · unfold FX5_readLine
        refine ((if_pos q4)).trans ?_
        rw [e1]
      · exact (e4 9 (by decide) (by decide) (by decide) (by decide)).trans ((pk_un (by decide)).trans p1)
      · exact ((e4 4 (by decide) (by decide) (by decide) (by decide)).trans pk_us).trans ((e5 36 (by decide) (by decide) (by decide) (by decide) (by decide)).trans ((pk_un (by decide)).trans pk_us)).symm
      · exact (e4 10 (by decide) (by decide) (by decide) (by decide)).trans ((pk_un (by decide)).trans p3)
      · exact (e5 32 (by decide) (by decide) (by decide) (by decide) (by decide)).trans ((pk_un (by decide)).trans ((pk_un (by decide)).trans p4))
      · exact pk_us.trans ((e5 31 (by decide) (by decide) (by decide) (by decide) (by decide)).trans pk_us).symm
      · exact (pk_un (by decide)).trans p6
      · exact (e5 27 (by decide) (by decide) (by decide) (by decide) (by decide)).trans ((pk_un (by decide)).trans ((pk_un (by decide)).trans p7))
      · exact (pk_un (by decide)).trans p8
      · exact (e5 28 (by decide) (by decide) (by decide) (by decide) (by decide)).trans ((pk_un (by decide)).trans ((pk_un (by decide)).trans p9))
      · exact (pk_un (by decide)).trans p10
      · exact (e5 30 (by decide) (by decide) (by decide) (by decide) (by decide)).trans ((pk_un (by decide)).trans ((pk_un (by decide)).trans p11))
      · exact (pk_un (by decide)).trans p12
      · exact (e5 29 (by decide) (by decide) (by decide) (by decide) (by decide)).trans ((pk_un (by decide)).trans ((pk_un (by decide)).trans p13))
    · rw [e1]
      refine asm_ft (f1 := f1) (rest := (fl1, rop, rnum, rla, rmem, rruns, rj, rlb, asked, asP, asB)) h8 ?_ (ho _ e2 (Or.inl rfl)) e4 e3 ?_
      · unfold FX10_readsLine
        refine ((if_neg zm).trans (if_pos r4)).trans ?_
        rw [e2]
      · unfold FX5_readLine
        rw [if_pos q4, e1]
  refine ⟨?_, key.2⟩
  unfold OX5_readLine
  exact ⟨q1, fun _ => ⟨a1, key.1⟩, fun z => absurd q4 z⟩
theorem PR_n {R2 f2 : mF} (h : PR L K N U J R f un up us prg op num ln la snd slk rcv rlk rm rw_ rp ra mem rop rnum rla rmem rruns rj rlb asked asP asB) (a : AR R R2) (b : AN f f2) : PR L K N U J R2 f2 un up us prg op num ln la snd slk rcv rlk rm rw_ rp ra mem rop rnum rla rmem rruns rj rlb asked asP asB := by
  obtain ⟨⟨h1, h2, h3, h4⟩, ⟨h5, h6, h7, h8, h9⟩, ⟨h10, h11, h12, h13⟩, hr⟩ := h
  have ra := fun k (x : k < 5 ∨ 8 < k) => a k (by omega) (by omega) (by omega) (by omega)
  have fa := fun k (x : k < 6 ∨ (9 < k ∧ k < 37)) => b k (by omega) (by omega) (by omega) (by omega) (by omega)
  refine ⟨⟨?_, ?_, ?_, ?_⟩, ⟨?_, h6, ?_, h8, ?_⟩, ⟨h10, ?_, h12, ?_⟩, hr⟩
  · exact (ra 9 (by decide)).trans h1
  · exact ((ra 4 (by decide)).trans h2).trans (fa 36 (by decide)).symm
  · exact (ra 10 (by decide)).trans h3
  · exact (fa 32 (by decide)).trans h4
  · exact h5.trans (fa 31 (by decide)).symm
  · exact (fa 27 (by decide)).trans h7
  · exact (fa 28 (by decide)).trans h9
  · exact (fa 30 (by decide)).trans h11
  · exact (fa 29 (by decide)).trans h13
theorem ln_40 (hN : NMS nm named) (hT : TP tp tr) (hS : S ≤ 700) (h : TK S lo R f fl) (h8 : ¬ f 8 = 0) (hP : PR L K N U J R f un up us prg op num ln la snd slk rcv rlk rm rw_ rp ra mem rop rnum rla rmem rruns rj rlb asked asP asB) (k5 : R 5 = 2) (q4 : FX5_name R nm = 40) : OX5_readLine tp R nm un up us prg op num ln la snd slk rcv rlk rm rw_ rp ra mem ∧ (LnOk S lo R f fl tp tr nm named un up us prg op num ln la snd slk rcv rlk rm rw_ rp ra mem rop rnum rla rmem rruns rj rlb asked asP asB ∨ LnFt R f fl tp tr nm named un up us prg op num ln la snd slk rcv rlk rm rw_ rp ra mem rop rnum rla rmem rruns rj rlb asked asP asB) := by
  have hP0 := hP
  obtain ⟨⟨p1, p2, p3, p4⟩, ⟨p5, p6, p7, p8, p9⟩, ⟨p10, p11, p12, p13⟩, ⟨i1, i2, i3, i4, i5⟩, c1, c2, c3, c4, ⟨g0, c5⟩, ⟨g1, c6⟩, c7⟩ := hP
  obtain ⟨q1, q2, q3, -⟩ := p_name hN h
  have z39 : ¬ FX5_name R nm = 39 := by rw [q4]; decide
  have r39 : ¬ FX10_nameHere f fl named = 39 := by rw [q3, q4]; decide
  have r4 : FX10_nameHere f fl named = 40 := q3.trans q4
  have zm : ¬ FX10_nameHere f fl named = -1 := by rw [q3, q4]; decide
  obtain ⟨a1, a2, a3⟩ := p_word hT hS h p1 k5 c7
  have key : OX5_takeSign 59 tp (FX5_readWord tp R mem).2.1 ∧ (LnOk S lo R f fl tp tr nm named un up us prg op num ln la snd slk rcv rlk rm rw_ rp ra mem rop rnum rla rmem rruns rj rlb asked asP asB ∨ LnFt R f fl tp tr nm named un up us prg op num ln la snd slk rcv rlk rm rw_ rp ra mem rop rnum rla rmem rruns rj rlb asked asP asB) := by
    have ho : ∀ x : Int32 × mF × mFl × mF, FX10_readsWord f fl tr rmem = x → (x.1 = 0 ∨ x.1 = 1) → OX10_readsLine f fl named tr rop rnum rla rmem rruns rj rlb asked asP asB := by
      intro x e hx
      unfold OX10_readsLine
      exact ⟨q2, ⟨fun z => absurd z zm, fun _ => ⟨fun z => absurd z r39, fun _ => ⟨fun _ => ⟨a2, by rw [e]; exact hx⟩, fun z => absurd r4 z⟩⟩⟩⟩
    rcases a3 with ⟨R1, f1, mem1, rmem1, fl1, e1, e2, e3, e4, e5, e6⟩ | ⟨R1, f1, mem1, rmem1, fl1, e1, e2, e3, e4⟩
    · rw [e1]
      have hP1 := PR_n hP0 e4 e5
      obtain ⟨x1, x2, x3, x4, x5, x6, x7, x8, x9, x10, -⟩ := hP1
      refine asm_ok (mem' := mem1) (rmem' := rmem1) (f1 := f1) (fl1 := fl1) hT hS h8 ?_ (ho _ e2 (Or.inr rfl)) e3 (AX_N e5) ?_ ⟨L, K, N, U, J, x1, x2, x3, x4, x5, x6, x7, x8, x9, x10, e6⟩
      · unfold FX10_readsLine
        refine ((if_neg zm).trans ((if_neg r39).trans (if_pos r4))).trans ?_
        rw [e2]
      · unfold FX5_readLine
        refine ((if_neg z39).trans (if_pos q4)).trans ?_
        rw [e1]
    · rw [e1]
      refine asm_ft (f1 := f1) (rest := (fl1, rop, rnum, rla, rmem1, rruns, rj, rlb, asked, asP, asB)) h8 ?_ (ho _ e2 (Or.inl rfl)) e4 e3 ?_
      · unfold FX10_readsLine
        refine ((if_neg zm).trans ((if_neg r39).trans (if_pos r4))).trans ?_
        rw [e2]
      · unfold FX5_readLine
        rw [if_neg z39, if_pos q4, e1]
  refine ⟨?_, key.2⟩
  unfold OX5_readLine
  exact ⟨q1, fun z => absurd z z39, fun _ => ⟨fun _ => ⟨a1, key.1⟩, fun z => absurd q4 z⟩⟩
theorem ln_41 (hN : NMS nm named) (hT : TP tp tr) (hS : S ≤ 700) (h : TK S lo R f fl) (h8 : ¬ f 8 = 0) (hP : PR L K N U J R f un up us prg op num ln la snd slk rcv rlk rm rw_ rp ra mem rop rnum rla rmem rruns rj rlb asked asP asB) (k5 : R 5 = 2) (q4 : FX5_name R nm = 41) : OX5_readLine tp R nm un up us prg op num ln la snd slk rcv rlk rm rw_ rp ra mem ∧ (LnOk S lo R f fl tp tr nm named un up us prg op num ln la snd slk rcv rlk rm rw_ rp ra mem rop rnum rla rmem rruns rj rlb asked asP asB ∨ LnFt R f fl tp tr nm named un up us prg op num ln la snd slk rcv rlk rm rw_ rp ra mem rop rnum rla rmem rruns rj rlb asked asP asB) := by
  obtain ⟨⟨p1, p2, p3, p4⟩, ⟨p5, p6, p7, p8, p9⟩, ⟨p10, p11, p12, p13⟩, ⟨i1, i2, i3, i4, i5⟩, c1, c2, c3, c4, ⟨g0, c5⟩, ⟨g1, c6⟩, c7⟩ := hP
  obtain ⟨q1, q2, q3, -⟩ := p_name hN h
  have z39 : ¬ FX5_name R nm = 39 := by rw [q4]; decide
  have r39 : ¬ FX10_nameHere f fl named = 39 := by rw [q3, q4]; decide
  have z40 : ¬ FX5_name R nm = 40 := by rw [q4]; decide
  have r40 : ¬ FX10_nameHere f fl named = 40 := by rw [q3, q4]; decide
  have r4 : FX10_nameHere f fl named = 41 := q3.trans q4
  have zm : ¬ FX10_nameHere f fl named = -1 := by rw [q3, q4]; decide
  obtain ⟨a1, a2, a3⟩ := p_join hT hS h p1 k5 p11 p10 i4 c5 c6
  have key : OX5_takeSign 59 tp (FX5_readJoin tp R prg snd slk rcv rlk).2.1 ∧ (LnOk S lo R f fl tp tr nm named un up us prg op num ln la snd slk rcv rlk rm rw_ rp ra mem rop rnum rla rmem rruns rj rlb asked asP asB ∨ LnFt R f fl tp tr nm named un up us prg op num ln la snd slk rcv rlk rm rw_ rp ra mem rop rnum rla rmem rruns rj rlb asked asP asB) := by
    have ho : ∀ x : Int32 × mF × mFl × mF, FX10_readsJoin f fl tr rj = x → (x.1 = 0 ∨ x.1 = 1) → OX10_readsLine f fl named tr rop rnum rla rmem rruns rj rlb asked asP asB := by
      intro x e hx
      unfold OX10_readsLine
      exact ⟨q2, ⟨fun z => absurd z zm, fun _ => ⟨fun z => absurd z r39, fun _ => ⟨fun z => absurd z r40, fun _ => ⟨fun _ => ⟨a2, by rw [e]; exact hx⟩, fun z => absurd r4 z⟩⟩⟩⟩⟩
    rcases a3 with ⟨R1, f1, s1, l1, r1, t1, rj1, fl1, g0', g1', e1, e2, e3, e4, e5, e6, e7, e8⟩ | ⟨f1, rj1, fl1, e2, e3, e4⟩
    · rw [e1]
      have ra := fun k (x : k < 5 ∨ 8 < k) => e4 k (by omega) (by omega) (by omega) (by omega)
      have fa := fun k (x : k < 6 ∨ (9 < k ∧ k < 37)) => e5 k (by omega) (by omega) (by omega) (by omega) (by omega)
      refine asm_ok (prg' := upd prg 7 (nI (J + 1))) (snd' := s1) (slk' := l1) (rcv' := r1) (rlk' := t1) (rj' := rj1) (f1 := f1) (fl1 := fl1) hT hS h8 ?_ (ho _ e2 (Or.inr rfl)) e3 ?_ ?_ ⟨L, K, N, U, J + 1, ⟨?_, ?_, ?_, ?_⟩, ⟨?_, ?_, ?_, ?_, ?_⟩, ⟨pk_us, ?_, ?_, ?_⟩, ⟨i1, i2, i3, by omega, i5⟩, c1, c2, c3, c4, ⟨g0', e7⟩, ⟨g1', e8⟩, c7⟩
      · unfold FX10_readsLine
        refine ((if_neg zm).trans ((if_neg r39).trans ((if_neg r40).trans (if_pos r4)))).trans ?_
        rw [e2]
      · exact fun k x1 x2 x3 => (e5 k (by omega) (by omega) (by omega) (by omega) x3).trans (pk_un (by omega))
      · unfold FX5_readLine
        refine ((if_neg z39).trans ((if_neg z40).trans (if_pos q4))).trans ?_
        rw [e1]
      · exact (ra 9 (by decide)).trans p1
      · exact ((ra 4 (by decide)).trans p2).trans ((fa 36 (by decide)).trans (pk_un (by decide))).symm
      · exact (ra 10 (by decide)).trans p3
      · exact (fa 32 (by decide)).trans ((pk_un (by decide)).trans p4)
      · exact ((pk_un (by decide)).trans p5).trans ((fa 31 (by decide)).trans (pk_un (by decide))).symm
      · exact (pk_un (by decide)).trans p6
      · exact (fa 27 (by decide)).trans ((pk_un (by decide)).trans p7)
      · exact (pk_un (by decide)).trans p8
      · exact (fa 28 (by decide)).trans ((pk_un (by decide)).trans p9)
      · exact (fa 30 (by decide)).trans pk_us
      · exact (pk_un (by decide)).trans p12
      · exact (fa 29 (by decide)).trans ((pk_un (by decide)).trans p13)
    · refine asm_ft (f1 := f1) (rest := (fl1, rop, rnum, rla, rmem, rruns, rj1, rlb, asked, asP, asB)) h8 ?_ (ho _ e2 (Or.inl rfl)) e4 e3 ?_
      · unfold FX10_readsLine
        refine ((if_neg zm).trans ((if_neg r39).trans ((if_neg r40).trans (if_pos r4)))).trans ?_
        rw [e2]
      · unfold FX5_readLine
        rw [if_neg z39, if_neg z40, if_pos q4]
  refine ⟨?_, key.2⟩
  unfold OX5_readLine
  exact ⟨q1, fun z => absurd z z39, fun _ => ⟨fun z => absurd z z40, fun _ => ⟨fun _ => ⟨a1, key.1⟩, fun z => absurd q4 z⟩⟩⟩
theorem ln_42 (hN : NMS nm named) (hT : TP tp tr) (hS : S ≤ 700) (h : TK S lo R f fl) (h8 : ¬ f 8 = 0) (hP : PR L K N U J R f un up us prg op num ln la snd slk rcv rlk rm rw_ rp ra mem rop rnum rla rmem rruns rj rlb asked asP asB) (k5 : R 5 = 2) (q4 : FX5_name R nm = 42) : OX5_readLine tp R nm un up us prg op num ln la snd slk rcv rlk rm rw_ rp ra mem ∧ (LnOk S lo R f fl tp tr nm named un up us prg op num ln la snd slk rcv rlk rm rw_ rp ra mem rop rnum rla rmem rruns rj rlb asked asP asB ∨ LnFt R f fl tp tr nm named un up us prg op num ln la snd slk rcv rlk rm rw_ rp ra mem rop rnum rla rmem rruns rj rlb asked asP asB) := by
  obtain ⟨⟨p1, p2, p3, p4⟩, ⟨p5, p6, p7, p8, p9⟩, ⟨p10, p11, p12, p13⟩, ⟨i1, i2, i3, i4, i5⟩, c1, c2, c3, c4, ⟨g0, c5⟩, ⟨g1, c6⟩, c7⟩ := hP
  obtain ⟨q1, q2, q3, -⟩ := p_name hN h
  have z39 : ¬ FX5_name R nm = 39 := by rw [q4]; decide
  have r39 : ¬ FX10_nameHere f fl named = 39 := by rw [q3, q4]; decide
  have z40 : ¬ FX5_name R nm = 40 := by rw [q4]; decide
  have r40 : ¬ FX10_nameHere f fl named = 40 := by rw [q3, q4]; decide
  have z41 : ¬ FX5_name R nm = 41 := by rw [q4]; decide
  have r41 : ¬ FX10_nameHere f fl named = 41 := by rw [q3, q4]; decide
  have r4 : FX10_nameHere f fl named = 42 := q3.trans q4
  have zm : ¬ FX10_nameHere f fl named = -1 := by rw [q3, q4]; decide
  obtain ⟨a1, a2, a3⟩ := p_run hN hT hS h p1 k5 p3 p4 (fun _ => by omega) p12 p13 i3 c4 c3
  have key : OX5_takeSign 59 tp (FX5_readRun tp R nm un up us prg rm rw_ rp ra).2.1 ∧ (LnOk S lo R f fl tp tr nm named un up us prg op num ln la snd slk rcv rlk rm rw_ rp ra mem rop rnum rla rmem rruns rj rlb asked asP asB ∨ LnFt R f fl tp tr nm named un up us prg op num ln la snd slk rcv rlk rm rw_ rp ra mem rop rnum rla rmem rruns rj rlb asked asP asB) := by
    have ho : ∀ x : Int32 × mF × mFl × mF × mFl × mF × mF, FX10_readsRun f fl named tr rruns asked asP asB = x → (x.1 = 0 ∨ x.1 = 1) → OX10_readsLine f fl named tr rop rnum rla rmem rruns rj rlb asked asP asB := by
      intro x e hx
      unfold OX10_readsLine
      exact ⟨q2, ⟨fun z => absurd z zm, fun _ => ⟨fun z => absurd z r39, fun _ => ⟨fun z => absurd z r40, fun _ => ⟨fun z => absurd z r41, fun _ => ⟨fun _ => ⟨a2, by rw [e]; exact hx⟩, fun z => absurd r4 z⟩⟩⟩⟩⟩⟩
    rcases a3 with ⟨R1, un1, up1, us1, rm1, rw1, rp1, ra1, f1, rruns1, asP1, asB1, fl1, asked1, e1, e2, e3, e4, e5, e6, e7, e8⟩ | ⟨f1, rest, e2, e3, e4⟩
    · rw [e1]
      have ra := fun k (x : k < 5 ∨ 8 < k) => e4 k (by omega) (by omega) (by omega) (by omega)
      have fa := fun k (x : k < 6 ∨ (9 < k ∧ k < 37)) => e5 k (by omega) (by omega) (by omega) (by omega) (by omega)
      refine asm_ok (un' := un1) (up' := up1) (us' := us1) (prg' := upd prg 12 (nI (N + 1))) (rm' := rm1) (rw_' := rw1) (rp' := rp1) (ra' := ra1) (rruns' := rruns1) (asked' := asked1) (asP' := asP1) (asB' := asB1) (f1 := f1) (fl1 := fl1) hT hS h8 ?_ (ho _ e2 (Or.inr rfl)) e3 ?_ ?_ ⟨L, K, N + 1, U + 1, J, ⟨?_, ?_, ?_, ?_⟩, ⟨?_, ?_, ?_, ?_, ?_⟩, ⟨?_, ?_, pk_us, ?_⟩, ⟨i1, i2, by omega, i4, by omega⟩, c1, c2, e8, e7, ⟨g0, c5⟩, ⟨g1, c6⟩, c7⟩
      · unfold FX10_readsLine
        refine ((if_neg zm).trans ((if_neg r39).trans ((if_neg r40).trans ((if_neg r41).trans (if_pos r4))))).trans ?_
        rw [e2]
      · exact fun k x1 x2 x3 => (e5 k (by omega) (by omega) (by omega) (by omega) x3).trans ((pk_un (by omega)).trans (pk_un (by omega)))
      · unfold FX5_readLine
        refine ((if_neg z39).trans ((if_neg z40).trans ((if_neg z41).trans (if_pos q4)))).trans ?_
        rw [e1]
      · exact (ra 9 (by decide)).trans ((pk_un (by decide)).trans p1)
      · exact ((ra 4 (by decide)).trans ((pk_un (by decide)).trans p2)).trans ((fa 36 (by decide)).trans ((pk_un (by decide)).trans (pk_un (by decide)))).symm
      · exact (ra 10 (by decide)).trans pk_us
      · exact (fa 32 (by decide)).trans ((pk_un (by decide)).trans pk_us)
      · exact ((pk_un (by decide)).trans p5).trans ((fa 31 (by decide)).trans ((pk_un (by decide)).trans (pk_un (by decide)))).symm
      · exact (pk_un (by decide)).trans p6
      · exact (fa 27 (by decide)).trans ((pk_un (by decide)).trans ((pk_un (by decide)).trans p7))
      · exact (pk_un (by decide)).trans p8
      · exact (fa 28 (by decide)).trans ((pk_un (by decide)).trans ((pk_un (by decide)).trans p9))
      · exact (pk_un (by decide)).trans p10
      · exact (fa 30 (by decide)).trans ((pk_un (by decide)).trans ((pk_un (by decide)).trans p11))
      · exact (fa 29 (by decide)).trans pk_us
    · refine asm_ft (f1 := f1) (rest := (rest.1, rop, rnum, rla, rmem, rest.2.1, rj, rlb, rest.2.2.1, rest.2.2.2.1, rest.2.2.2.2)) h8 ?_ (ho _ e2 (Or.inl rfl)) e4 e3 ?_
      · unfold FX10_readsLine
        refine ((if_neg zm).trans ((if_neg r39).trans ((if_neg r40).trans ((if_neg r41).trans (if_pos r4))))).trans ?_
        rw [e2]
      · unfold FX5_readLine
        rw [if_neg z39, if_neg z40, if_neg z41, if_pos q4]
  refine ⟨?_, key.2⟩
  unfold OX5_readLine
  exact ⟨q1, fun z => absurd z z39, fun _ => ⟨fun z => absurd z z40, fun _ => ⟨fun z => absurd z z41, fun _ => ⟨fun _ => ⟨a1, key.1⟩, fun z => absurd q4 z⟩⟩⟩⟩
theorem ln_op {k : Nat} (hN : NMS nm named) (hT : TP tp tr) (hS : S ≤ 700) (h : TK S lo R f fl) (h8 : ¬ f 8 = 0) (hP : PR L K N U J R f un up us prg op num ln la snd slk rcv rlk rm rw_ rp ra mem rop rnum rla rmem rruns rj rlb asked asP asB) (k5 : R 5 = 2) (hk : k < 39) (q4 : FX5_name R nm = nI k) : OX5_readLine tp R nm un up us prg op num ln la snd slk rcv rlk rm rw_ rp ra mem ∧ (LnOk S lo R f fl tp tr nm named un up us prg op num ln la snd slk rcv rlk rm rw_ rp ra mem rop rnum rla rmem rruns rj rlb asked asP asB ∨ LnFt R f fl tp tr nm named un up us prg op num ln la snd slk rcv rlk rm rw_ rp ra mem rop rnum rla rmem rruns rj rlb asked asP asB) := by
  obtain ⟨⟨p1, p2, p3, p4⟩, ⟨p5, p6, p7, p8, p9⟩, ⟨p10, p11, p12, p13⟩, ⟨i1, i2, i3, i4, i5⟩, c1, c2, c3, c4, ⟨g0, c5⟩, ⟨g1, c6⟩, c7⟩ := hP
  obtain ⟨q1, q2, q3, -⟩ := p_name hN h
  have z39 : ¬ FX5_name R nm = 39 := fun z => by
    have := (nI_eq (a := k) (b := 39) (by omega) (by decide)).mp (q4.symm.trans z)
    omega
  have r39 : ¬ FX10_nameHere f fl named = 39 := fun z => z39 (q3.symm.trans z)
  have z40 : ¬ FX5_name R nm = 40 := fun z => by
    have := (nI_eq (a := k) (b := 40) (by omega) (by decide)).mp (q4.symm.trans z)
    omega
  have r40 : ¬ FX10_nameHere f fl named = 40 := fun z => z40 (q3.symm.trans z)
  have z41 : ¬ FX5_name R nm = 41 := fun z => by
    have := (nI_eq (a := k) (b := 41) (by omega) (by decide)).mp (q4.symm.trans z)
    omega
  have r41 : ¬ FX10_nameHere f fl named = 41 := fun z => z41 (q3.symm.trans z)
  have z42 : ¬ FX5_name R nm = 42 := fun z => by
    have := (nI_eq (a := k) (b := 42) (by omega) (by decide)).mp (q4.symm.trans z)
    omega
  have r42 : ¬ FX10_nameHere f fl named = 42 := fun z => z42 (q3.symm.trans z)
  have zc : ¬ FX5_name R nm = -1 := by rw [q4]; exact nI_nm1 (by omega)
  have zm : ¬ FX10_nameHere f fl named = -1 := fun z => zc (q3.symm.trans z)
  obtain ⟨a1, a2, a3⟩ := p_codeL hN hT hS h p1 p3 p4 (fun _ => by omega) p6 p7 i1 p8 p9 c1 c3 c2
  have ei : FX5_readInstruction tp R nm un up us prg op num ln la = FX5_readInstruction_b1 tp R nm un up us prg op num ln la := by
    unfold FX5_readInstruction
    refine (if_pos k5).trans ?_
    exact if_neg zc
  have oi : OX5_readInstruction tp R nm un up us prg op num ln la := by
    unfold OX5_readInstruction
    exact ⟨fun _ => ⟨q1, fun z => absurd z zc, fun _ => a1⟩, fun z => absurd k5 z⟩
  have key : OX5_takeSign 59 tp (FX5_readInstruction tp R nm un up us prg op num ln la).2.1 ∧ (LnOk S lo R f fl tp tr nm named un up us prg op num ln la snd slk rcv rlk rm rw_ rp ra mem rop rnum rla rmem rruns rj rlb asked asP asB ∨ LnFt R f fl tp tr nm named un up us prg op num ln la snd slk rcv rlk rm rw_ rp ra mem rop rnum rla rmem rruns rj rlb asked asP asB) := by
    have ho : ∀ x : Int32 × mF × mFl × mF × mF × mFl × mF × mF, FX10_readsCode f fl named tr rop rnum asked asP asB = x → (x.1 = 0 ∨ x.1 = 1) → OX10_readsLine f fl named tr rop rnum rla rmem rruns rj rlb asked asP asB := by
      intro x e hx
      unfold OX10_readsLine
      exact ⟨q2, ⟨fun z => absurd z zm, fun _ => ⟨fun z => absurd z r39, fun _ => ⟨fun z => absurd z r40, fun _ => ⟨fun z => absurd z r41, fun _ => ⟨fun z => absurd z r42, fun _ => ⟨a2, by rw [e]; exact hx⟩⟩⟩⟩⟩⟩⟩
    rw [ei]
    rcases a3 with ⟨R1, un1, up1, us1, prg1, op1, num1, f1, rop1, rnum1, asP1, asB1, fl1, asked1, e1, e2, U', K', y1, y2, y3, y4, y5, y6, y7, y8, y9, y10, y11, y12, y13, y14, y15, y16⟩ | ⟨f1, rest, e2, e3, e4⟩
    · rw [e1]
      have ya := fun j (x : j < 6 ∨ (9 < j ∧ j < 27) ∨ (28 < j ∧ j < 32) ∨ (32 < j ∧ j < 37)) => y4 j (by omega) (by omega) (by omega) (by omega) (by omega) (by omega) (by omega) (by omega)
      have yx : AX f f1 := fun j x1 x2 x3 => y4 j (by omega) (by omega) (by omega) (by omega) x3 (by omega) (by omega) (by omega)
      refine asm_ok (un' := un1) (up' := up1) (us' := us1) (prg' := prg1) (op' := op1) (num' := num1) (rop' := rop1) (rnum' := rnum1) (asked' := asked1) (asP' := asP1) (asB' := asB1) (f1 := f1) (fl1 := fl1) hT hS h8 ?_ (ho _ e2 (Or.inr rfl)) y1 yx ?_ ⟨L + 1, K', N, U', J, ⟨(y2 9 (by decide) (by decide) (by decide) (by decide) (by decide)).trans p1, ((y2 4 (by decide) (by decide) (by decide) (by decide) (by decide)).trans p2).trans (ya 36 (by decide)).symm, y3, y7⟩, ⟨((y8 0 (by decide) (by decide)).trans p5).trans (ya 31 (by decide)).symm, y9, y5, y10, y6⟩, ⟨(y8 7 (by decide) (by decide)).trans p10, (ya 30 (by decide)).trans p11, (y8 12 (by decide) (by decide)).trans p12, (ya 29 (by decide)).trans p13⟩, ⟨by omega, by omega, i3, i4, by omega⟩, y14, y16, y15, c4, ⟨g0, c5⟩, ⟨g1, c6⟩, c7⟩
      · unfold FX10_readsLine
        refine ((if_neg zm).trans ((if_neg r39).trans ((if_neg r40).trans ((if_neg r41).trans (if_neg r42))))).trans ?_
        rw [e2]
      · unfold FX5_readLine
        refine ((if_neg z39).trans ((if_neg z40).trans ((if_neg z41).trans (if_neg z42)))).trans ?_
        rw [ei, e1]
    · refine asm_ft (f1 := f1) (rest := (rest.1, rest.2.1, rest.2.2.1, rla, rmem, rruns, rj, rlb, rest.2.2.2.1, rest.2.2.2.2.1, rest.2.2.2.2.2)) h8 ?_ (ho _ e2 (Or.inl rfl)) e4 e3 ?_
      · unfold FX10_readsLine
        refine ((if_neg zm).trans ((if_neg r39).trans ((if_neg r40).trans ((if_neg r41).trans (if_neg r42))))).trans ?_
        rw [e2]
      · unfold FX5_readLine
        rw [if_neg z39, if_neg z40, if_neg z41, if_neg z42, ei]
  refine ⟨?_, key.2⟩
  unfold OX5_readLine
  exact ⟨q1, fun z => absurd z z39, fun _ => ⟨fun z => absurd z z40, fun _ => ⟨fun z => absurd z z41, fun _ => ⟨fun z => absurd z z42, fun _ => ⟨oi, key.1⟩⟩⟩⟩⟩
theorem ln_lb (hN : NMS nm named) (hT : TP tp tr) (hS : S ≤ 700) (h : TK S lo R f fl) (h8 : ¬ f 8 = 0) (hP : PR L K N U J R f un up us prg op num ln la snd slk rcv rlk rm rw_ rp ra mem rop rnum rla rmem rruns rj rlb asked asP asB) (q4 : FX5_name R nm = -1) : OX5_readLine tp R nm un up us prg op num ln la snd slk rcv rlk rm rw_ rp ra mem ∧ (LnOk S lo R f fl tp tr nm named un up us prg op num ln la snd slk rcv rlk rm rw_ rp ra mem rop rnum rla rmem rruns rj rlb asked asP asB ∨ LnFt R f fl tp tr nm named un up us prg op num ln la snd slk rcv rlk rm rw_ rp ra mem rop rnum rla rmem rruns rj rlb asked asP asB) := by
  obtain ⟨⟨p1, p2, p3, p4⟩, ⟨p5, p6, p7, p8, p9⟩, ⟨p10, p11, p12, p13⟩, ⟨i1, i2, i3, i4, i5⟩, c1, c2, c3, c4, ⟨g0, c5⟩, ⟨g1, c6⟩, c7⟩ := hP
  obtain ⟨q1, q2, q3, -⟩ := p_name hN h
  have z39 : ¬ FX5_name R nm = 39 := by rw [q4]; decide
  have z40 : ¬ FX5_name R nm = 40 := by rw [q4]; decide
  have z41 : ¬ FX5_name R nm = 41 := by rw [q4]; decide
  have z42 : ¬ FX5_name R nm = 42 := by rw [q4]; decide
  have r4 : FX10_nameHere f fl named = -1 := q3.trans q4
  obtain ⟨a1, a2, a3⟩ := p_lab hN hT hS h p1 q4 p3 p4 (fun _ => by omega) p6 p7 i1 p8 p9 (by omega) c1 c3 c2
  have key : OX5_takeSign 59 tp (FX5_readInstruction tp R nm un up us prg op num ln la).2.1 ∧ (LnOk S lo R f fl tp tr nm named un up us prg op num ln la snd slk rcv rlk rm rw_ rp ra mem rop rnum rla rmem rruns rj rlb asked asP asB ∨ LnFt R f fl tp tr nm named un up us prg op num ln la snd slk rcv rlk rm rw_ rp ra mem rop rnum rla rmem rruns rj rlb asked asP asB) := by
    have ho : ∀ x : Int32 × mF × mFl × mF × mF × mF × mFl × mFl × mF × mF, FX10_readsLabelled f fl named tr rop rnum rla rlb asked asP asB = x → (x.1 = 0 ∨ x.1 = 1) → OX10_readsLine f fl named tr rop rnum rla rmem rruns rj rlb asked asP asB := by
      intro x e hx
      unfold OX10_readsLine
      exact ⟨q2, ⟨fun _ => ⟨a2, by rw [e]; exact hx⟩, fun z => absurd r4 z⟩⟩
    rcases a3 with ⟨R1, un1, up1, us1, prg1, op1, num1, ln1, la1, f1, rop1, rnum1, rla1, asP1, asB1, fl1, rlb1, asked1, e1, e2, U', K', y1, y2, y3, y4, y5, y6, y7, y8, y9, y10, y11, y12, y13, y14, y15, y16⟩ | ⟨f1, rest, e2, e3, e4⟩
    · rw [e1]
      have ya := fun j (x : j < 6 ∨ (9 < j ∧ j < 27) ∨ (28 < j ∧ j < 32) ∨ (32 < j ∧ j < 37)) => y4 j (by omega) (by omega) (by omega) (by omega) (by omega) (by omega) (by omega) (by omega)
      have yx : AX f f1 := fun j x1 x2 x3 => y4 j (by omega) (by omega) (by omega) (by omega) x3 (by omega) (by omega) (by omega)
      refine asm_ok (un' := un1) (up' := up1) (us' := us1) (prg' := prg1) (op' := op1) (num' := num1) (ln' := ln1) (la' := la1) (rop' := rop1) (rnum' := rnum1) (rla' := rla1) (rlb' := rlb1) (asked' := asked1) (asP' := asP1) (asB' := asB1) (f1 := f1) (fl1 := fl1) hT hS h8 ?_ (ho _ e2 (Or.inr rfl)) y1 yx ?_ ⟨L + 1, K', N, U', J, ⟨(y2 9 (by decide) (by decide) (by decide) (by decide) (by decide)).trans p1, ((y2 4 (by decide) (by decide) (by decide) (by decide) (by decide)).trans p2).trans (ya 36 (by decide)).symm, y3, y7⟩, ⟨((y8 0 (by decide) (by decide)).trans p5).trans (ya 31 (by decide)).symm, y9, y5, y10, y6⟩, ⟨(y8 7 (by decide) (by decide)).trans p10, (ya 30 (by decide)).trans p11, (y8 12 (by decide) (by decide)).trans p12, (ya 29 (by decide)).trans p13⟩, ⟨by omega, by omega, i3, i4, by omega⟩, y14, y16, y15, c4, ⟨g0, c5⟩, ⟨g1, c6⟩, c7⟩
      · unfold FX10_readsLine
        refine ((if_pos r4)).trans ?_
        rw [e2]
      · unfold FX5_readLine
        refine ((if_neg z39).trans ((if_neg z40).trans ((if_neg z41).trans (if_neg z42)))).trans ?_
        rw [e1]
    · refine asm_ft (f1 := f1) (rest := (rest.1, rest.2.1, rest.2.2.1, rest.2.2.2.1, rmem, rruns, rj, rest.2.2.2.2.1, rest.2.2.2.2.2.1, rest.2.2.2.2.2.2.1, rest.2.2.2.2.2.2.2)) h8 ?_ (ho _ e2 (Or.inl rfl)) e4 e3 ?_
      · unfold FX10_readsLine
        refine ((if_pos r4)).trans ?_
        rw [e2]
      · unfold FX5_readLine
        rw [if_neg z39, if_neg z40, if_neg z41, if_neg z42]
  refine ⟨?_, key.2⟩
  unfold OX5_readLine
  exact ⟨q1, fun z => absurd z z39, fun _ => ⟨fun z => absurd z z40, fun _ => ⟨fun z => absurd z z41, fun _ => ⟨fun z => absurd z z42, fun _ => ⟨a1, key.1⟩⟩⟩⟩⟩
theorem p_line (hN : NMS nm named) (hT : TP tp tr) (hS : S ≤ 700) (h : TK S lo R f fl) (h8 : ¬ f 8 = 0) (hP : PR L K N U J R f un up us prg op num ln la snd slk rcv rlk rm rw_ rp ra mem rop rnum rla rmem rruns rj rlb asked asP asB) : OX5_readLine tp R nm un up us prg op num ln la snd slk rcv rlk rm rw_ rp ra mem ∧ (LnOk S lo R f fl tp tr nm named un up us prg op num ln la snd slk rcv rlk rm rw_ rp ra mem rop rnum rla rmem rruns rj rlb asked asP asB ∨ LnFt R f fl tp tr nm named un up us prg op num ln la snd slk rcv rlk rm rw_ rp ra mem rop rnum rla rmem rruns rj rlb asked asP asB) := by
  obtain ⟨-, -, -, q⟩ := p_name hN h
  rcases q with q | ⟨k, hk, q, k5, -⟩
  · exact ln_lb hN hT hS h h8 hP q
  · rcases (show k < 39 ∨ k = 39 ∨ k = 40 ∨ k = 41 ∨ k = 42 by omega) with e | rfl | rfl | rfl | rfl
    · exact ln_op hN hT hS h h8 hP k5 e q
    · exact ln_39 hN hT hS h h8 hP k5 q
    · exact ln_40 hN hT hS h h8 hP k5 q
    · exact ln_41 hN hT hS h h8 hP k5 q
    · exact ln_42 hN hT hS h h8 hP k5 q
end LNW
