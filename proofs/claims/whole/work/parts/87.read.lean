/-! PURE: a text read on both sides (GENERATED, wip/gen/p/87.py) -/
def rdF (t : mF × mF × mF × mF × mF × mF × mF × mF × mF × mF × mF × mF × mF × mF × mF × mF × mF × mF) : Int32 × mF × mF × mF := FX5_findUses t.1 t.2.1 t.2.2.1 t.2.2.2.1 t.2.2.2.2.1 t.2.2.2.2.2.2.1 t.2.2.2.2.2.2.2.1 t.2.2.2.2.2.2.2.2.1 t.2.2.2.2.2.2.2.2.2.2.2.2.2.2.2.2.1
def rdO (t : mF × mF × mF × mF × mF × mF × mF × mF × mF × mF × mF × mF × mF × mF × mF × mF × mF × mF) : Prop := OX5_findUses t.1 t.2.1 t.2.2.1 t.2.2.2.1 t.2.2.2.2.1 t.2.2.2.2.2.2.1 t.2.2.2.2.2.2.2.1 t.2.2.2.2.2.2.2.2.1 t.2.2.2.2.2.2.2.2.2.2.2.2.2.2.2.2.1
section RDS
variable {R f tp tr nm un up us prg op num ln la snd slk rcv rlk rm rw_ rp ra mem rop rnum rla rmem rruns rj asP asB : mF} {fl named rlb asked : mFl} {S lo : Nat}
theorem ft_uses (h9 : ¬ R 9 = -1) : OX5_findUses R un up us prg num ln la ra ∧ FX5_findUses R un up us prg num ln la ra = (0, R, num, ra) := by
  have a : OX5_findUses_b1 (9999 + 1) 0 R un up us prg num ln la ra := by
    rw [OX5_findUses_b1]
    exact ⟨fun _ => trivial, fun _ => ⟨fun z => absurd z h9, fun _ => trivial⟩⟩
  have b : FX5_findUses_b1 (9999 + 1) 0 R un up us prg num ln la ra = (R, num, ra) := by
    rw [FX5_findUses_b1, if_neg h9]
    split <;> rfl
  unfold OX5_findUses FX5_findUses
  refine ⟨a, ?_⟩
  rw [show (10000 : Nat) = 9999 + 1 from rfl, b]
theorem rd_stop {n : Nat} {y : Int32} (h9 : ¬ R 9 = -1) : OX5_read_b1 (n + 1) y tp R nm un up us prg op num ln la snd slk rcv rlk rm rw_ rp ra mem ∧ FX5_read_b1 (n + 1) y tp R nm un up us prg op num ln la snd slk rcv rlk rm rw_ rp ra mem = (R, un, up, us, prg, op, num, ln, la, snd, slk, rcv, rlk, rm, rw_, rp, ra, mem) := by
  rw [OX5_read_b1, FX5_read_b1, if_neg h9]
  refine ⟨⟨fun _ => trivial, fun _ => ⟨fun _ => trivial, fun _ => ⟨fun z => absurd z h9, fun _ => trivial⟩⟩⟩, ?_⟩
  split
  · rfl
  · split <;> rfl
theorem rd_end {n : Nat} {y : Int32} (h5 : R 5 = 0) : OX5_read_b1 (n + 1) y tp R nm un up us prg op num ln la snd slk rcv rlk rm rw_ rp ra mem ∧ FX5_read_b1 (n + 1) y tp R nm un up us prg op num ln la snd slk rcv rlk rm rw_ rp ra mem = (R, un, up, us, prg, op, num, ln, la, snd, slk, rcv, rlk, rm, rw_, rp, ra, mem) := by
  rw [OX5_read_b1, FX5_read_b1, if_pos h5]
  refine ⟨⟨fun _ => trivial, fun _ => ⟨fun _ => trivial, fun z => absurd h5 z⟩⟩, ?_⟩
  split <;> rfl
/-- read to its end on both sides -/
def RdOk (t : mF × mF × mF × mF × mF × mF × mF × mF × mF × mF × mF × mF × mF × mF × mF × mF × mF × mF) (x : Int32 × mF × mFl × mF × mF × mF × mF × mF × mF × mFl × mFl × mF × mF) (f : mF) : Prop := ∃ (R' f' un' up' us' prg' op' num' ln' la' snd' slk' rcv' rlk' rm' rw_' rp' ra' mem' rop' rnum' rla' rmem' rruns' rj' asP' asB' numf raf rnumf rrunsf : mF) (fl' rlb' asked' : mFl) (L K N U J : Nat), t = (R', un', up', us', prg', op', num', ln', la', snd', slk', rcv', rlk', rm', rw_', rp', ra', mem') ∧ rdF t = (0, R', numf, raf) ∧ x = (1, f', fl', rop', rnumf, rla', rmem', rrunsf, rj', rlb', asked', asP', asB') ∧ PR L K N U J R' f' un' up' us' prg' op' num' ln' la' snd' slk' rcv' rlk' rm' rw_' rp' ra' mem' rop' rnum' rla' rmem' rruns' rj' rlb' asked' asP' asB' ∧ FU U L N op' numf rnumf us' raf rrunsf rm' rw_' rp' ∧ AX f f'
def RdFt (t : mF × mF × mF × mF × mF × mF × mF × mF × mF × mF × mF × mF × mF × mF × mF × mF × mF × mF) (x : Int32 × mF × mFl × mF × mF × mF × mF × mF × mF × mFl × mFl × mF × mF) (f : mF) : Prop := ∃ (f' : mF) (rest : mFl × mF × mF × mF × mF × mF × mF × mFl × mFl × mF × mF), x = (0, f', rest) ∧ RF (rdF t).2.1 f' ∧ AX f f'
theorem rd_fin {L K N U J n n' : Nat} {y : Int32} (h5 : R 5 = 0) (h8 : f 8 = 0) (hP : PR L K N U J R f un up us prg op num ln la snd slk rcv rlk rm rw_ rp ra mem rop rnum rla rmem rruns rj rlb asked asP asB) : OX5_read_b1 (n + 1) y tp R nm un up us prg op num ln la snd slk rcv rlk rm rw_ rp ra mem ∧ OX10_readsAll_b0 (n' + 1) f fl named tr rop rnum rla rmem rruns rj rlb asked asP asB ∧ rdO (FX5_read_b1 (n + 1) y tp R nm un up us prg op num ln la snd slk rcv rlk rm rw_ rp ra mem) ∧ (RdOk (FX5_read_b1 (n + 1) y tp R nm un up us prg op num ln la snd slk rcv rlk rm rw_ rp ra mem) (FX10_readsAll_b0 (n' + 1) f fl named tr rop rnum rla rmem rruns rj rlb asked asP asB) f ∨ RdFt (FX5_read_b1 (n + 1) y tp R nm un up us prg op num ln la snd slk rcv rlk rm rw_ rp ra mem) (FX10_readsAll_b0 (n' + 1) f fl named tr rop rnum rla rmem rruns rj rlb asked asP asB) f) := by
  obtain ⟨e1, e2⟩ := rd_end (n := n) (y := y) (tp := tp) (nm := nm) (un := un) (up := up) (us := us) (prg := prg) (op := op) (num := num) (ln := ln) (la := la) (snd := snd) (slk := slk) (rcv := rcv) (rlk := rlk) (rm := rm) (rw_ := rw_) (rp := rp) (ra := ra) (mem := mem) h5
  have hP0 := hP
  obtain ⟨⟨p1, p2, p3, p4⟩, ⟨p5, p6, p7, p8, p9⟩, ⟨p10, p11, p12, p13⟩, ⟨i1, i2, i3, i4, i5⟩, c1, c2, c3, c4, ⟨g0, c5⟩, ⟨g1, c6⟩, c7⟩ := hP
  have fu0 : FU 0 L N op num rnum us ra rruns rm rw_ rp := ⟨fun k hk => ⟨(c1 k hk).2.1, (c1 k hk).2.2.2⟩, fun k hk => ⟨(c4 k hk).1, (c4 k hk).2.1, (c4 k hk).2.2.1⟩, fun k hk ⟨u, z, _⟩ => absurd z (Nat.not_lt_zero _)⟩
  obtain ⟨a1, a2, a3⟩ := l_uses c2 p8 p9 (by omega) p3 p4 p1 i1 i3 (by omega) c3 U 0 10000 10000 num rnum ra rruns (by omega) (by omega) (by omega) fu0
  rw [nI_0] at a1 a2 a3
  have ofl : OX10_findsLabels f rnum rla rruns rlb asked asP asB := by
    unfold OX10_findsLabels
    exact a2
  have efl : FX10_findsLabels f rnum rla rruns rlb asked asP asB = FX10_findsLabels_b1 10000 0 f rnum rla rruns rlb asked asP asB := by
    unfold FX10_findsLabels
    rfl
  have efu : FX5_findUses R un up us prg num ln la ra = (0, (FX5_findUses_b1 10000 0 R un up us prg num ln la ra).1, (FX5_findUses_b1 10000 0 R un up us prg num ln la ra).2.1, (FX5_findUses_b1 10000 0 R un up us prg num ln la ra).2.2) := by
    unfold FX5_findUses
    rfl
  have ofu : OX5_findUses R un up us prg num ln la ra := by
    unfold OX5_findUses
    exact a1
  have er : FX10_readsAll_b0 (n' + 1) f fl named tr rop rnum rla rmem rruns rj rlb asked asP asB = (let u2 := FX10_findsLabels f rnum rla rruns rlb asked asP asB; (u2.1, u2.2.1, fl, rop, u2.2.2.1, rla, rmem, u2.2.2.2, rj, rlb, asked, asP, asB)) := by
    rw [FX10_readsAll_b0]
    exact if_pos h8
  rw [e2, er]
  have z01 : (FX10_findsLabels f rnum rla rruns rlb asked asP asB).1 = 0 ∨ (FX10_findsLabels f rnum rla rruns rlb asked asP asB).1 = 1 := by
    rw [efl]
    rcases a3 with ⟨numf, rnumf, raf, rrunsf, x1, x2, x3⟩ | ⟨f', rest, x1, x2, x3⟩
    · rw [x2]; exact Or.inr rfl
    · rw [x1]; exact Or.inl rfl
  refine ⟨e1, ?_, ?_, ?_⟩
  · rw [OX10_readsAll_b0]
    exact ⟨fun _ => ⟨ofl, z01⟩, fun z => absurd h8 z⟩
  · unfold rdO
    exact ofu
  · unfold RdOk RdFt rdF
    dsimp only
    rw [efl, efu]
    rcases a3 with ⟨numf, rnumf, raf, rrunsf, x1, x2, x3⟩ | ⟨f', rest, x1, x2, x3⟩
    · rw [x1, x2]
      exact Or.inl ⟨R, f, un, up, us, prg, op, num, ln, la, snd, slk, rcv, rlk, rm, rw_, rp, ra, mem, rop, rnum, rla, rmem, rruns, rj, asP, asB, numf, raf, rnumf, rrunsf, fl, rlb, asked, L, K, N, U, J, rfl, rfl, rfl, hP0, x3, AX_r⟩
    · rw [x1]
      exact Or.inr ⟨f', _, rfl, x2, x3⟩
theorem l_read (hN : NMS nm named) (hT : TP tp tr) (hS : S ≤ 700) : ∀ (m i fuel fuel' : Nat) (R f un up us prg op num ln la snd slk rcv rlk rm rw_ rp ra mem rop rnum rla rmem rruns rj : mF) (rlb asked : mFl) (asP asB : mF) (fl : mFl) (L K N U J : Nat), i + m = S + 1 → m + 1 < fuel → m + 1 < fuel' → TK S i R f fl → PR L K N U J R f un up us prg op num ln la snd slk rcv rlk rm rw_ rp ra mem rop rnum rla rmem rruns rj rlb asked asP asB → OX5_read_b1 fuel (nI i) tp R nm un up us prg op num ln la snd slk rcv rlk rm rw_ rp ra mem ∧ OX10_readsAll_b0 fuel' f fl named tr rop rnum rla rmem rruns rj rlb asked asP asB ∧ rdO (FX5_read_b1 fuel (nI i) tp R nm un up us prg op num ln la snd slk rcv rlk rm rw_ rp ra mem) ∧ (RdOk (FX5_read_b1 fuel (nI i) tp R nm un up us prg op num ln la snd slk rcv rlk rm rw_ rp ra mem) (FX10_readsAll_b0 fuel' f fl named tr rop rnum rla rmem rruns rj rlb asked asP asB) f ∨ RdFt (FX5_read_b1 fuel (nI i) tp R nm un up us prg op num ln la snd slk rcv rlk rm rw_ rp ra mem) (FX10_readsAll_b0 fuel' f fl named tr rop rnum rla rmem rruns rj rlb asked asP asB) f) := by
  intro m
  induction m with
  | zero =>
    intro i fuel fuel' R f un up us prg op num ln la snd slk rcv rlk rm rw_ rp ra mem rop rnum rla rmem rruns rj rlb asked asP asB fl L K N U J hm hf hf' ht hP
    obtain ⟨fuel, rfl⟩ : ∃ k, fuel = k + 1 := ⟨fuel - 1, by omega⟩
    obtain ⟨fuel', rfl⟩ : ∃ k, fuel' = k + 1 := ⟨fuel' - 1, by omega⟩
    obtain ⟨-, -, -, ⟨h5, h8⟩ | ⟨⟨q, q1, q2, -⟩, -⟩⟩ := ht
    · exact rd_fin h5 h8 hP
    · omega
  | succ m ih =>
    intro i fuel fuel' R f un up us prg op num ln la snd slk rcv rlk rm rw_ rp ra mem rop rnum rla rmem rruns rj rlb asked asP asB fl L K N U J hm hf hf' ht hP
    obtain ⟨fuel, rfl⟩ : ∃ k, fuel = k + 1 := ⟨fuel - 1, by omega⟩
    obtain ⟨fuel', rfl⟩ : ∃ k, fuel' = k + 1 := ⟨fuel' - 1, by omega⟩
    obtain ⟨t1, t2, t3, ⟨h5, h8⟩ | ⟨⟨q, q1, q2, -⟩, tk⟩⟩ := id ht
    · exact rd_fin h5 h8 hP
    · have n5 : ¬ R 5 = 0 := by
        rcases tk with ⟨a, b⟩ | ⟨a, b, c⟩ | ⟨a, b, c⟩ | ⟨s, hs, a, b, c⟩
        · rw [a]; decide
        · rw [a]; decide
        · rw [a]; decide
        · rw [a]; rcases hs with rfl | rfl <;> decide
      have n8 : ¬ f 8 = 0 := by
        rcases tk with ⟨a, b⟩ | ⟨a, b, c⟩ | ⟨a, b, c⟩ | ⟨s, hs, a, b, c⟩
        · rw [b]; decide
        · rw [b]; decide
        · rw [b]; decide
        · rw [b]; decide
      have c2 : ¬ R 2 < nI i := by
        rw [t1]
        intro z
        have := (nI_ltI (a := S) (b := i) (by omega) (by omega)).mp z
        omega
      have h9 := hP.1.1
      obtain ⟨o1, o2⟩ := p_line hN hT hS ht n8 hP
      rcases o2 with ⟨R2, f2, un', up', us', prg', op', num', ln', la', snd', slk', rcv', rlk', rm', rw_', rp', ra', mem', rop', rnum', rla', rmem', rruns', rj', asP', asB', fl2, rlb', asked', e1, e2, e3, e4, L', K', N', U', J', e5⟩ | ⟨f2, e1, e2, e3⟩
      · obtain ⟨g1, g2, g3, g4⟩ := ih (i + 1) fuel fuel' R2 f2 un' up' us' prg' op' num' ln' la' snd' slk' rcv' rlk' rm' rw_' rp' ra' mem' rop' rnum' rla' rmem' rruns' rj' rlb' asked' asP' asB' fl2 L' K' N' U' J' (by omega) (by omega) (by omega) e3 e5
        have er : FX5_read_b1 (fuel + 1) (nI i) tp R nm un up us prg op num ln la snd slk rcv rlk rm rw_ rp ra mem = FX5_read_b1 fuel (nI (i + 1)) tp R2 nm un' up' us' prg' op' num' ln' la' snd' slk' rcv' rlk' rm' rw_' rp' ra' mem' := by
          rw [FX5_read_b1]
          refine (if_neg c2).trans ((if_neg n5).trans ((if_pos h9).trans ?_))
          rw [e1, nI_1]
        have oo : OX5_read_b1 (fuel + 1) (nI i) tp R nm un up us prg op num ln la snd slk rcv rlk rm rw_ rp ra mem := by
          rw [OX5_read_b1, nI_1, e1]
          exact ⟨fun z => absurd z c2, fun _ => ⟨fun z => absurd z n5, fun _ => ⟨fun _ => ⟨o1, g1⟩, fun z => absurd h9 z⟩⟩⟩
        rw [er, (e2 fuel').1]
        refine ⟨?_, (e2 fuel').2 g2, g3, ?_⟩
        · exact oo
        · rcases g4 with ⟨R', f', un1, up1, us1, prg1, op1, num1, ln1, la1, snd1, slk1, rcv1, rlk1, rm1, rw1, rp1, ra1, mem1, rop1, rnum1, rla1, rmem1, rruns1, rj1, asP1, asB1, numf, raf, rnumf, rrunsf, fl', rlb1, asked1, L1, K1, N1, U1, J1, x1, x2, x3, x4, x5, x6⟩ | ⟨f', rest, x1, x2, x3⟩
          · exact Or.inl ⟨R', f', un1, up1, us1, prg1, op1, num1, ln1, la1, snd1, slk1, rcv1, rlk1, rm1, rw1, rp1, ra1, mem1, rop1, rnum1, rla1, rmem1, rruns1, rj1, asP1, asB1, numf, raf, rnumf, rrunsf, fl', rlb1, asked1, L1, K1, N1, U1, J1, x1, x2, x3, x4, x5, AX_t e4 x6⟩
          · exact Or.inr ⟨f', rest, x1, x2, AX_t e4 x3⟩
      · obtain ⟨fu, rfl⟩ : ∃ k, fuel = k + 1 := ⟨fuel - 1, by omega⟩
        have st : ∀ u8 : Int32 × mF × mF × mF × mF × mF × mF × mF × mF × mF × mF × mF × mF × mF × mF × mF × mF × mF × mF × mF, u8.2.1 9 ≠ -1 → True := fun _ _ => trivial
        obtain ⟨x1, rest, x2⟩ := e3 fuel'
        have key : ∀ u8, FX5_readLine tp R nm un up us prg op num ln la snd slk rcv rlk rm rw_ rp ra mem = u8 → OX5_read_b1 (fu + 1) (nI (i + 1)) tp u8.2.1 nm u8.2.2.1 u8.2.2.2.1 u8.2.2.2.2.1 u8.2.2.2.2.2.1 u8.2.2.2.2.2.2.1 u8.2.2.2.2.2.2.2.1 u8.2.2.2.2.2.2.2.2.1 u8.2.2.2.2.2.2.2.2.2.1 u8.2.2.2.2.2.2.2.2.2.2.1 u8.2.2.2.2.2.2.2.2.2.2.2.1 u8.2.2.2.2.2.2.2.2.2.2.2.2.1 u8.2.2.2.2.2.2.2.2.2.2.2.2.2.1 u8.2.2.2.2.2.2.2.2.2.2.2.2.2.2.1 u8.2.2.2.2.2.2.2.2.2.2.2.2.2.2.2.1 u8.2.2.2.2.2.2.2.2.2.2.2.2.2.2.2.2.1 u8.2.2.2.2.2.2.2.2.2.2.2.2.2.2.2.2.2.1 u8.2.2.2.2.2.2.2.2.2.2.2.2.2.2.2.2.2.2 ∧ FX5_read_b1 (fu + 1) (nI (i + 1)) tp u8.2.1 nm u8.2.2.1 u8.2.2.2.1 u8.2.2.2.2.1 u8.2.2.2.2.2.1 u8.2.2.2.2.2.2.1 u8.2.2.2.2.2.2.2.1 u8.2.2.2.2.2.2.2.2.1 u8.2.2.2.2.2.2.2.2.2.1 u8.2.2.2.2.2.2.2.2.2.2.1 u8.2.2.2.2.2.2.2.2.2.2.2.1 u8.2.2.2.2.2.2.2.2.2.2.2.2.1 u8.2.2.2.2.2.2.2.2.2.2.2.2.2.1 u8.2.2.2.2.2.2.2.2.2.2.2.2.2.2.1 u8.2.2.2.2.2.2.2.2.2.2.2.2.2.2.2.1 u8.2.2.2.2.2.2.2.2.2.2.2.2.2.2.2.2.1 u8.2.2.2.2.2.2.2.2.2.2.2.2.2.2.2.2.2.1 u8.2.2.2.2.2.2.2.2.2.2.2.2.2.2.2.2.2.2 = (u8.2.1, u8.2.2.1, u8.2.2.2.1, u8.2.2.2.2.1, u8.2.2.2.2.2.1, u8.2.2.2.2.2.2.1, u8.2.2.2.2.2.2.2.1, u8.2.2.2.2.2.2.2.2.1, u8.2.2.2.2.2.2.2.2.2.1, u8.2.2.2.2.2.2.2.2.2.2.1, u8.2.2.2.2.2.2.2.2.2.2.2.1, u8.2.2.2.2.2.2.2.2.2.2.2.2.1, u8.2.2.2.2.2.2.2.2.2.2.2.2.2.1, u8.2.2.2.2.2.2.2.2.2.2.2.2.2.2.1, u8.2.2.2.2.2.2.2.2.2.2.2.2.2.2.2.1, u8.2.2.2.2.2.2.2.2.2.2.2.2.2.2.2.2.1, u8.2.2.2.2.2.2.2.2.2.2.2.2.2.2.2.2.2.1, u8.2.2.2.2.2.2.2.2.2.2.2.2.2.2.2.2.2.2) := fun u8 e => rd_stop (by rw [← e]; exact e1.1)
        have er : FX5_read_b1 (fu + 1 + 1) (nI i) tp R nm un up us prg op num ln la snd slk rcv rlk rm rw_ rp ra mem = (let u8 := FX5_readLine tp R nm un up us prg op num ln la snd slk rcv rlk rm rw_ rp ra mem; (u8.2.1, u8.2.2.1, u8.2.2.2.1, u8.2.2.2.2.1, u8.2.2.2.2.2.1, u8.2.2.2.2.2.2.1, u8.2.2.2.2.2.2.2.1, u8.2.2.2.2.2.2.2.2.1, u8.2.2.2.2.2.2.2.2.2.1, u8.2.2.2.2.2.2.2.2.2.2.1, u8.2.2.2.2.2.2.2.2.2.2.2.1, u8.2.2.2.2.2.2.2.2.2.2.2.2.1, u8.2.2.2.2.2.2.2.2.2.2.2.2.2.1, u8.2.2.2.2.2.2.2.2.2.2.2.2.2.2.1, u8.2.2.2.2.2.2.2.2.2.2.2.2.2.2.2.1, u8.2.2.2.2.2.2.2.2.2.2.2.2.2.2.2.2.1, u8.2.2.2.2.2.2.2.2.2.2.2.2.2.2.2.2.2.1, u8.2.2.2.2.2.2.2.2.2.2.2.2.2.2.2.2.2.2)) := by
          rw [FX5_read_b1]
          refine (if_neg c2).trans ((if_neg n5).trans ((if_pos h9).trans ?_))
          rw [nI_1]
          exact (key _ rfl).2
        have oo : OX5_read_b1 (fu + 1 + 1) (nI i) tp R nm un up us prg op num ln la snd slk rcv rlk rm rw_ rp ra mem := by
          rw [OX5_read_b1, nI_1]
          exact ⟨fun z => absurd z c2, fun _ => ⟨fun z => absurd z n5, fun _ => ⟨fun _ => ⟨o1, (key _ rfl).1⟩, fun z => absurd h9 z⟩⟩⟩
        refine ⟨oo, x1, ?_, Or.inr ⟨f2, rest, x2, ?_, e2⟩⟩
        · rw [er]
          unfold rdO
          exact (ft_uses e1.1).1
        · rw [er]
          unfold rdF
          dsimp only
          rw [(ft_uses e1.1).2]
          exact e1
end RDS
