/-! PURE: a line, whole (GENERATED, wip/gen/p/84.py) -/
/-- what is read so far, on both sides -/
def PR (L K N U J : Nat) (R f : mF) (un up us prg op num ln la snd slk rcv rlk rm rw_ rp ra mem rop rnum rla rmem rruns rj : mF) (rlb asked : mFl) (asP asB : mF) : Prop := (R 9 = -1 ∧ R 4 = f 36 ∧ R 10 = nI U ∧ f 32 = nI U) ∧ (prg 0 = f 31 ∧ prg 1 = nI L ∧ f 27 = nI L ∧ prg 4 = nI K ∧ f 28 = nI K) ∧ (prg 7 = nI J ∧ f 30 = nI J ∧ prg 12 = nI N ∧ f 29 = nI N) ∧ (L ≤ 100 ∧ K ≤ L ∧ N ≤ 12 ∧ J ≤ 4 ∧ U ≤ L + N) ∧ RCo L op num rop rnum ∧ LB K 100 ln la rla rlb ∧ US U L N un up us asked asP asB ∧ RN N rm rw_ rp ra rruns ∧ (∃ g, JS J 0 snd slk rj g) ∧ (∃ g, JS J 1 rcv rlk rj g) ∧ ∀ k, k < 192 → rmem k = mem k
section LIN
variable {R f tp tr nm un up us prg op num ln la snd slk rcv rlk rm rw_ rp ra mem rop rnum rla rmem rruns rj asP asB un' up' us' prg' op' num' ln' la' snd' slk' rcv' rlk' rm' rw_' rp' ra' mem' rop' rnum' rla' rmem' rruns' rj' asP' asB' f1 f2 R1 : mF} {fl fl1 fl2 named rlb asked rlb' asked' : mFl} {S lo n : Nat}
theorem PR_c {L K N U J : Nat} {R2 : mF} (h : PR L K N U J R f un up us prg op num ln la snd slk rcv rlk rm rw_ rp ra mem rop rnum rla rmem rruns rj rlb asked asP asB) (a : AR R R2) (b : AF f f2) : PR L K N U J R2 f2 un up us prg op num ln la snd slk rcv rlk rm rw_ rp ra mem rop rnum rla rmem rruns rj rlb asked asP asB := by
  obtain ⟨⟨h1, h2, h3, h4⟩, ⟨h5, h6, h7, h8, h9⟩, ⟨h10, h11, h12, h13⟩, hr⟩ := h
  have ra := fun k (x : k < 5 ∨ 8 < k) => a k (by omega) (by omega) (by omega) (by omega)
  have fa := fun k (x : k < 6 ∨ 9 < k) => b k (by omega) (by omega) (by omega) (by omega)
  refine ⟨⟨?_, ?_, ?_, ?_⟩, ⟨?_, h6, ?_, h8, ?_⟩, ⟨h10, ?_, h12, ?_⟩, hr⟩
  · exact (ra 9 (by decide)).trans h1
  · exact ((ra 4 (by decide)).trans h2).trans (fa 36 (by decide)).symm
  · exact (ra 10 (by decide)).trans h3
  · exact (fa 32 (by decide)).trans h4
  · exact h5.trans (fa 31 (by decide)).symm
  · exact (fa 27 (by decide)).trans h7
  · exact (fa 28 (by decide)).trans h9
  · exact (fa 30 (by decide)).trans h11
  · exact (fa 29 (by decide)).trans h13
theorem fin_ok (h8 : ¬ f 8 = 0) (hl : FX10_readsLine f fl named tr rop rnum rla rmem rruns rj rlb asked asP asB = (1, f1, fl1, rop', rnum', rla', rmem', rruns', rj', rlb', asked', asP', asB')) (ho : OX10_readsLine f fl named tr rop rnum rla rmem rruns rj rlb asked asP asB) (hs : ¬ FX10_isSign 59 f1 = 0) (hg : OX10_go f1 fl1 tr) (hg2 : FX10_go f1 fl1 tr = (0, f2, fl2)) : FX10_readsAll_b0 (n + 1) f fl named tr rop rnum rla rmem rruns rj rlb asked asP asB = FX10_readsAll_b0 n f2 fl2 named tr rop' rnum' rla' rmem' rruns' rj' rlb' asked' asP' asB' ∧ (OX10_readsAll_b0 n f2 fl2 named tr rop' rnum' rla' rmem' rruns' rj' rlb' asked' asP' asB' → OX10_readsAll_b0 (n + 1) f fl named tr rop rnum rla rmem rruns rj rlb asked asP asB) := by
  have z10 : ¬ (1 : Int32) = 0 := by decide
  refine ⟨?_, fun q => ?_⟩
  · rw [FX10_readsAll_b0]
    refine (if_neg h8).trans ?_
    rw [hl]
    refine (if_neg z10).trans ((if_neg hs).trans ?_)
    dsimp only
    rw [hg2]
  · rw [OX10_readsAll_b0, hl]
    dsimp only
    rw [hg2]
    exact ⟨fun z => absurd z h8, fun _ => ⟨ho, fun z => absurd z z10, fun _ => ⟨fun z => absurd z hs, fun _ => ⟨hg, q⟩⟩⟩⟩
theorem fin_sg (h8 : ¬ f 8 = 0) (hl : FX10_readsLine f fl named tr rop rnum rla rmem rruns rj rlb asked asP asB = (1, f1, fl1, rop', rnum', rla', rmem', rruns', rj', rlb', asked', asP', asB')) (ho : OX10_readsLine f fl named tr rop rnum rla rmem rruns rj rlb asked asP asB) (hs : FX10_isSign 59 f1 = 0) (hg2 : FX10_bad 1 f1 = (0, f2)) : OX10_readsAll_b0 (n + 1) f fl named tr rop rnum rla rmem rruns rj rlb asked asP asB ∧ FX10_readsAll_b0 (n + 1) f fl named tr rop rnum rla rmem rruns rj rlb asked asP asB = (0, f2, fl1, rop', rnum', rla', rmem', rruns', rj', rlb', asked', asP', asB') := by
  have z10 : ¬ (1 : Int32) = 0 := by decide
  refine ⟨?_, ?_⟩
  · rw [OX10_readsAll_b0, hl]
    exact ⟨fun z => absurd z h8, fun _ => ⟨ho, fun z => absurd z z10, fun _ => ⟨fun _ => bad_z, fun z => absurd hs z⟩⟩⟩
  · rw [FX10_readsAll_b0]
    refine (if_neg h8).trans ?_
    rw [hl]
    refine (if_neg z10).trans ((if_pos hs).trans ?_)
    dsimp only
    rw [hg2]
theorem fin_ft {rest : mFl × mF × mF × mF × mF × mF × mF × mFl × mFl × mF × mF} (h8 : ¬ f 8 = 0) (hl : FX10_readsLine f fl named tr rop rnum rla rmem rruns rj rlb asked asP asB = (0, f1, rest)) (ho : OX10_readsLine f fl named tr rop rnum rla rmem rruns rj rlb asked asP asB) : OX10_readsAll_b0 (n + 1) f fl named tr rop rnum rla rmem rruns rj rlb asked asP asB ∧ FX10_readsAll_b0 (n + 1) f fl named tr rop rnum rla rmem rruns rj rlb asked asP asB = (0, f1, rest) := by
  refine ⟨?_, ?_⟩
  · rw [OX10_readsAll_b0, hl]
    exact ⟨fun z => absurd z h8, fun _ => ⟨ho, fun _ => trivial, fun z => absurd rfl z⟩⟩
  · rw [FX10_readsAll_b0]
    refine (if_neg h8).trans ?_
    rw [hl]
    exact if_pos rfl
/-- a line read to its end on both sides -/
def LnOk (S lo : Nat) (R f : mF) (fl : mFl) (tp tr nm : mF) (named : mFl) (un up us prg op num ln la snd slk rcv rlk rm rw_ rp ra mem rop rnum rla rmem rruns rj : mF) (rlb asked : mFl) (asP asB : mF) : Prop := ∃ (R2 f2 un' up' us' prg' op' num' ln' la' snd' slk' rcv' rlk' rm' rw_' rp' ra' mem' rop' rnum' rla' rmem' rruns' rj' asP' asB' : mF) (fl2 rlb' asked' : mFl), FX5_readLine tp R nm un up us prg op num ln la snd slk rcv rlk rm rw_ rp ra mem = (0, R2, un', up', us', prg', op', num', ln', la', snd', slk', rcv', rlk', rm', rw_', rp', ra', mem') ∧ (∀ n, FX10_readsAll_b0 (n + 1) f fl named tr rop rnum rla rmem rruns rj rlb asked asP asB = FX10_readsAll_b0 n f2 fl2 named tr rop' rnum' rla' rmem' rruns' rj' rlb' asked' asP' asB' ∧ (OX10_readsAll_b0 n f2 fl2 named tr rop' rnum' rla' rmem' rruns' rj' rlb' asked' asP' asB' → OX10_readsAll_b0 (n + 1) f fl named tr rop rnum rla rmem rruns rj rlb asked asP asB)) ∧ TK S (lo + 1) R2 f2 fl2 ∧ AX f f2 ∧ ∃ L K N U J : Nat, PR L K N U J R2 f2 un' up' us' prg' op' num' ln' la' snd' slk' rcv' rlk' rm' rw_' rp' ra' mem' rop' rnum' rla' rmem' rruns' rj' rlb' asked' asP' asB'
/-- a FAULT in it -/
def LnFt (R f : mF) (fl : mFl) (tp tr nm : mF) (named : mFl) (un up us prg op num ln la snd slk rcv rlk rm rw_ rp ra mem rop rnum rla rmem rruns rj : mF) (rlb asked : mFl) (asP asB : mF) : Prop := ∃ f2 : mF, RF (FX5_readLine tp R nm un up us prg op num ln la snd slk rcv rlk rm rw_ rp ra mem).2.1 f2 ∧ AX f f2 ∧ ∀ n, OX10_readsAll_b0 (n + 1) f fl named tr rop rnum rla rmem rruns rj rlb asked asP asB ∧ ∃ rest, FX10_readsAll_b0 (n + 1) f fl named tr rop rnum rla rmem rruns rj rlb asked asP asB = (0, f2, rest)
theorem asm_ok (hT : TP tp tr) (hS : S ≤ 700) (h8 : ¬ f 8 = 0) (hl : FX10_readsLine f fl named tr rop rnum rla rmem rruns rj rlb asked asP asB = (1, f1, fl1, rop', rnum', rla', rmem', rruns', rj', rlb', asked', asP', asB')) (ho : OX10_readsLine f fl named tr rop rnum rla rmem rruns rj rlb asked asP asB) (t : TK S lo R1 f1 fl1) (ax : AX f f1) (hF : FX5_readLine tp R nm un up us prg op num ln la snd slk rcv rlk rm rw_ rp ra mem = (0, (FX5_takeSign 59 tp R1).2, un', up', us', prg', op', num', ln', la', snd', slk', rcv', rlk', rm', rw_', rp', ra', mem')) (hP : ∃ L K N U J : Nat, PR L K N U J R1 f1 un' up' us' prg' op' num' ln' la' snd' slk' rcv' rlk' rm' rw_' rp' ra' mem' rop' rnum' rla' rmem' rruns' rj' rlb' asked' asP' asB') : OX5_takeSign 59 tp R1 ∧ (LnOk S lo R f fl tp tr nm named un up us prg op num ln la snd slk rcv rlk rm rw_ rp ra mem rop rnum rla rmem rruns rj rlb asked asP asB ∨ LnFt R f fl tp tr nm named un up us prg op num ln la snd slk rcv rlk rm rw_ rp ra mem rop rnum rla rmem rruns rj rlb asked asP asB) := by
  obtain ⟨L, K, N, U, J, hP⟩ := hP
  obtain ⟨g1, g2⟩ := p_sign 59 (Or.inl rfl) hT hS t hP.1.1
  refine ⟨g1, ?_⟩
  rcases g2 with ⟨e1, e2, R2, f2, fl2, e3, e4, e5, e6, e7⟩ | ⟨e1, R2, f2, e3, e4, e5, e6⟩
  · rw [e3] at hF
    exact Or.inl ⟨R2, f2, un', up', us', prg', op', num', ln', la', snd', slk', rcv', rlk', rm', rw_', rp', ra', mem', rop', rnum', rla', rmem', rruns', rj', asP', asB', fl2, rlb', asked', hF, fun n => fin_ok h8 hl ho e1 e2 e4, e5, AX_t ax (AX_F e7), L, K, N, U, J, PR_c hP e6 e7⟩
  · rw [e3] at hF
    refine Or.inr ⟨f2, by rw [hF]; exact e5, AX_t ax e6, fun n => ?_⟩
    obtain ⟨b1, b2⟩ := fin_sg (n := n) h8 hl ho e1 e4
    exact ⟨b1, _, b2⟩
theorem asm_ft {rest : mFl × mF × mF × mF × mF × mF × mF × mFl × mFl × mF × mF} (h8 : ¬ f 8 = 0) (hl : FX10_readsLine f fl named tr rop rnum rla rmem rruns rj rlb asked asP asB = (0, f1, rest)) (ho : OX10_readsLine f fl named tr rop rnum rla rmem rruns rj rlb asked asP asB) (ax : AX f f1) (rf : RF R1 f1) (hF : (FX5_readLine tp R nm un up us prg op num ln la snd slk rcv rlk rm rw_ rp ra mem).2.1 = (FX5_takeSign 59 tp R1).2) : OX5_takeSign 59 tp R1 ∧ (LnOk S lo R f fl tp tr nm named un up us prg op num ln la snd slk rcv rlk rm rw_ rp ra mem rop rnum rla rmem rruns rj rlb asked asP asB ∨ LnFt R f fl tp tr nm named un up us prg op num ln la snd slk rcv rlk rm rw_ rp ra mem rop rnum rla rmem rruns rj rlb asked asP asB) := by
  obtain ⟨g1, g2⟩ := ft_sign (R := R1) (tp := tp) 59 rf.1
  rw [g2] at hF
  refine ⟨g1, Or.inr ⟨f1, by rw [hF]; exact rf, ax, fun n => ?_⟩⟩
  obtain ⟨b1, b2⟩ := fin_ft (n := n) h8 hl ho
  exact ⟨b1, _, b2⟩
end LIN
