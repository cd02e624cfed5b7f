/-! PURE: a text read, from its first byte (GENERATED, wip/gen/p/88.py) -/
section RDW
variable {R f tp tr nm un up us prg op num ln la snd slk rcv rlk rm rw_ rp ra mem rop rnum rla rmem rruns rj asP asB : mF} {fl named rlb asked : mFl} {s : Nat}
theorem l_fill : ∀ (m i fuel : Nat) (g : mF), i + m = 192 → m < fuel → OJ_fill_192_b1 fuel (-1) 192 (nI i) g ∧ ∀ k, k < 192 → FJ_fill_192_b1 fuel (-1) 192 (nI i) g k = if i ≤ k then -1 else g k
  | _, _, 0, _, _, h => absurd h (Nat.not_lt_zero _)
  | 0, i, fuel + 1, g, h, _ => by
    have c : (192 : Int32) ≤ nI i := nI_le (show 192 ≤ i by omega) (by omega)
    rw [OJ_fill_192_b1, FJ_fill_192_b1, if_pos c]
    exact ⟨⟨fun _ => trivial, fun z => absurd c z⟩, fun k hk => by rw [if_neg (by omega)]⟩
  | m + 1, i, fuel + 1, g, h, _ => by
    have c : ¬ (192 : Int32) ≤ nI i := nI_ge (show i < 192 by omega) (by decide)
    have ci : (nI i).toNatClampNeg = i := nI_clamp (by omega)
    have vi : vp_in (nI i) 192 := vp_in_nI (by omega) (by decide)
    obtain ⟨i1, i2⟩ := l_fill m (i + 1) fuel (upd g i (-1)) (by omega) (by omega)
    rw [OJ_fill_192_b1, FJ_fill_192_b1, if_neg c, ci, nI_1]
    refine ⟨⟨fun z => absurd z c, fun _ => ⟨vi, i1⟩⟩, fun k hk => (i2 k hk).trans ?_⟩
    rw [upd_at]
    by_cases e : k = i
    · rw [if_pos e, if_neg (by omega), if_pos (by omega)]
    · rw [if_neg e]
      by_cases q : i + 1 ≤ k
      · rw [if_pos q, if_pos (by omega)]
      · rw [if_neg q, if_neg (by omega)]
theorem l_plain : ∀ (m i fuel : Nat) (g : mF), i + m = 192 → m < fuel → OX10_plain_b1 fuel (nI i) g ∧ ∀ k, k < 192 → FX10_plain_b1 fuel (nI i) g k = if i ≤ k then -1 else g k
  | _, _, 0, _, _, h => absurd h (Nat.not_lt_zero _)
  | 0, i, fuel + 1, g, h, _ => by
    have c : (192 : Int32) ≤ nI i := nI_le (show 192 ≤ i by omega) (by omega)
    rw [OX10_plain_b1, FX10_plain_b1, if_pos c]
    exact ⟨⟨fun _ => trivial, fun z => absurd c z⟩, fun k hk => by rw [if_neg (by omega)]⟩
  | m + 1, i, fuel + 1, g, h, _ => by
    have c : ¬ (192 : Int32) ≤ nI i := nI_ge (show i < 192 by omega) (by decide)
    have ci : (nI i).toNatClampNeg = i := nI_clamp (by omega)
    have vi : vp_in (nI i) 192 := vp_in_nI (by omega) (by decide)
    obtain ⟨i1, i2⟩ := l_plain m (i + 1) fuel (upd g i (-1)) (by omega) (by omega)
    rw [OX10_plain_b1, FX10_plain_b1, if_neg c, ci, nI_1]
    refine ⟨⟨fun z => absurd z c, fun _ => ⟨vi, i1⟩⟩, fun k hk => (i2 k hk).trans ?_⟩
    rw [upd_at]
    by_cases e : k = i
    · rw [if_pos e, if_neg (by omega), if_pos (by omega)]
    · rw [if_neg e]
      by_cases q : i + 1 ≤ k
      · rw [if_pos q, if_pos (by omega)]
      · rw [if_neg q, if_neg (by omega)]
/-- what the reader begins with -/
def r0 (R : mF) (s : Nat) : mF := upd (upd (upd (upd (upd R 2 (nI s)) 4 0) 7 0) 9 (-1)) 10 0
def pz0 (prg : mF) : mF := upd (upd (upd (upd (upd prg 0 8) 1 0) 4 0) 7 0) 12 0
def f0 (f : mF) : mF := upd (upd (upd (upd f 0 0) 5 (f 4)) 4 0) 6 0
def fp (f : mF) : mF := upd (upd (upd (upd (upd (upd (upd f 27 0) 28 0) 29 0) 30 0) 31 8) 32 0) 36 0
theorem p_read (hN : NMS nm named) (hT : TP tp tr) (hs : s ≤ 700) (h4 : f 4 = nI s) : OX5_read (nI s) tp R nm un up us prg op num ln la snd slk rcv rlk rm rw_ rp ra mem ∧ OX10_plain (f0 f) rmem ∧ ∃ (m1 : mF), FX10_plain (f0 f) rmem = (0, fp (f0 f), m1) ∧ OX10_go (fp (f0 f)) fl tr ∧ ∃ (f2 : mF) (fl2 : mFl), FX10_go (fp (f0 f)) fl tr = (0, f2, fl2) ∧ OX10_readsAll f2 fl2 named tr rop rnum rla m1 rruns rj rlb asked asP asB ∧ ((∃ (R' f' un' up' us' prg' op' num' ln' la' snd' slk' rcv' rlk' rm' rw_' rp' ra' mem' rop' rnum' rla' rmem' rruns' rj' asP' asB' numf raf rnumf rrunsf : mF) (fl' rlb' asked' : mFl) (L K N U J : Nat), FX5_read (nI s) tp R nm un up us prg op num ln la snd slk rcv rlk rm rw_ rp ra mem = (-1, R', un', up', us', prg', op', numf, ln', la', snd', slk', rcv', rlk', rm', rw_', rp', raf, mem') ∧ FX10_readsAll f2 fl2 named tr rop rnum rla m1 rruns rj rlb asked asP asB = (1, f', fl', rop', rnumf, rla', rmem', rrunsf, rj', rlb', asked', asP', asB') ∧ PR L K N U J R' f' un' up' us' prg' op' num' ln' la' snd' slk' rcv' rlk' rm' rw_' rp' ra' mem' rop' rnum' rla' rmem' rruns' rj' rlb' asked' asP' asB' ∧ FU U L N op' numf rnumf us' raf rrunsf rm' rw_' rp' ∧ AX (f0 f) f') ∨ ∃ (f' : mF) (rest : mFl × mF × mF × mF × mF × mF × mF × mFl × mFl × mF × mF), FX10_readsAll f2 fl2 named tr rop rnum rla m1 rruns rj rlb asked asP asB = (0, f', rest) ∧ ¬ (FX5_read (nI s) tp R nm un up us prg op num ln la snd slk rcv rlk rm rw_ rp ra mem).1 = -1 ∧ (FX5_read (nI s) tp R nm un up us prg op num ln la snd slk rcv rlk rm rw_ rp ra mem).1 = 8 * f' 11 + f' 10 ∧ AX (f0 f) f') := by
  obtain ⟨a1, a2⟩ := l_fill 192 0 10000 mem (by decide) (by decide)
  obtain ⟨b1, b2⟩ := l_plain 192 0 10000 rmem (by decide) (by decide)
  rw [nI_0] at a1 a2 b1 b2
  have oe : OX4_empty prg mem := by
    unfold OX4_empty OJ_fill_192
    exact a1
  have ee : FX4_empty prg mem = (0, pz0 prg, FJ_fill_192_b1 10000 (-1) 192 0 mem) := by
    have e1 : FJ_fill_192 (-1) mem = (0, FJ_fill_192_b1 10000 (-1) 192 0 mem) := by
      unfold FJ_fill_192
      dsimp only
    unfold FX4_empty pz0
    rw [e1]
  have opl : OX10_plain (f0 f) rmem := by
    unfold OX10_plain
    exact b1
  have epl : FX10_plain (f0 f) rmem = (0, fp (f0 f), FX10_plain_b1 10000 0 rmem) := by
    unfold FX10_plain fp
    exact rfl
  have sz : (if (700 : Int32) < nI s then 700 else nI s) = nI s := if_neg (fun z => by
    have := (nI_ltI (a := 700) (b := s) (by decide) (by omega)).mp z
    omega)
  have q5 : fp (f0 f) 5 = nI s := by
    show f 4 = nI s
    exact h4
  obtain ⟨s1, s2, R1, f1, fl1, s3, s4, s5, s6, s7⟩ := p_scan (S := s) (q := 0) (R := r0 R s) (f := fp (f0 f)) (fl := fl) hT hs rfl q5 (Nat.zero_le _) rfl rfl
  generalize hm : FJ_fill_192_b1 10000 (-1) 192 0 mem = mm at *
  generalize hmr : FX10_plain_b1 10000 0 rmem = mr at *
  have hP : PR 0 0 0 0 0 R1 f1 un up us (pz0 prg) op num ln la snd slk rcv rlk rm rw_ rp ra mm rop rnum rla mr rruns rj rlb asked asP asB := by
    have ra := fun k (x : k < 5 ∨ 8 < k) => s6 k (by omega) (by omega) (by omega) (by omega)
    have fa := fun k (x : k < 6 ∨ 9 < k) => s7 k (by omega) (by omega) (by omega) (by omega)
    refine ⟨⟨ra 9 (by decide), (ra 4 (by decide)).trans (fa 36 (by decide)).symm, ra 10 (by decide), fa 32 (by decide)⟩, ⟨(fa 31 (by decide)).symm, rfl, fa 27 (by decide), rfl, fa 28 (by decide)⟩, ⟨rfl, fa 30 (by decide), rfl, fa 29 (by decide)⟩, by decide, fun k hk => absurd hk (Nat.not_lt_zero _), ⟨fun k hk => absurd hk (Nat.not_lt_zero _), fun k k' hk => absurd hk (Nat.not_lt_zero _)⟩, ⟨fun k hk => absurd hk (Nat.not_lt_zero _), fun k hk => absurd hk (Nat.not_lt_zero _)⟩, fun k hk => absurd hk (Nat.not_lt_zero _), ⟨fun _ => 0, fun k hk => absurd hk (Nat.not_lt_zero _), fun k k' hk => absurd hk (Nat.not_lt_zero _)⟩, ⟨fun _ => 0, fun k hk => absurd hk (Nat.not_lt_zero _), fun k k' hk => absurd hk (Nat.not_lt_zero _)⟩, fun k hk => ?_⟩
    rw [b2 k hk, a2 k hk, if_pos (Nat.zero_le _), if_pos (Nat.zero_le _)]
  obtain ⟨g1, g2, g3, g4⟩ := l_read hN hT hs (s + 1) 0 10000 10000 R1 f1 un up us (pz0 prg) op num ln la snd slk rcv rlk rm rw_ rp ra mm rop rnum rla mr rruns rj rlb asked asP asB fl1 0 0 0 0 0 (by omega) (by omega) (by omega) s5 hP
  rw [nI_0] at g1 g3 g4
  have er : ∀ t, FX5_read_b1 10000 0 tp R1 nm un up us (pz0 prg) op num ln la snd slk rcv rlk rm rw_ rp ra mm = t → FX5_read (nI s) tp R nm un up us prg op num ln la snd slk rcv rlk rm rw_ rp ra mem = ((rdF t).2.1 9, (rdF t).2.1, t.2.1, t.2.2.1, t.2.2.2.1, t.2.2.2.2.1, t.2.2.2.2.2.1, (rdF t).2.2.1, t.2.2.2.2.2.2.2.1, t.2.2.2.2.2.2.2.2.1, t.2.2.2.2.2.2.2.2.2.1, t.2.2.2.2.2.2.2.2.2.2.1, t.2.2.2.2.2.2.2.2.2.2.2.1, t.2.2.2.2.2.2.2.2.2.2.2.2.1, t.2.2.2.2.2.2.2.2.2.2.2.2.2.1, t.2.2.2.2.2.2.2.2.2.2.2.2.2.2.1, t.2.2.2.2.2.2.2.2.2.2.2.2.2.2.2.1, (rdF t).2.2.2, t.2.2.2.2.2.2.2.2.2.2.2.2.2.2.2.2.2) := by
    intro t e
    unfold FX5_read
    rw [sz, ee]
    dsimp only
    rw [show FX5_scan tp (upd (upd (upd (upd (upd R 2 (nI s)) 4 0) 7 0) 9 (-1)) 10 0) = (0, R1) from s3]
    dsimp only
    rw [e]
    rfl
  have oo : OX5_read (nI s) tp R nm un up us prg op num ln la snd slk rcv rlk rm rw_ rp ra mem := by
    unfold OX5_read
    rw [sz, ee]
    dsimp only
    rw [show FX5_scan tp (upd (upd (upd (upd (upd R 2 (nI s)) 4 0) 7 0) 9 (-1)) 10 0) = (0, R1) from s3]
    exact ⟨oe, s1, g1, g3⟩
  have ea : FX10_readsAll f1 fl1 named tr rop rnum rla mr rruns rj rlb asked asP asB = FX10_readsAll_b0 10000 f1 fl1 named tr rop rnum rla mr rruns rj rlb asked asP asB := by
    unfold FX10_readsAll
    rfl
  have oa : OX10_readsAll f1 fl1 named tr rop rnum rla mr rruns rj rlb asked asP asB := by
    unfold OX10_readsAll
    exact g2
  refine ⟨oo, opl, mr, epl, s2, f1, fl1, s4, oa, ?_⟩
  have ax0 : AX (fp (f0 f)) f1 := AX_F s7
  have ax1 : AX (f0 f) (fp (f0 f)) := AX_u (AX_u (AX_u (AX_u (AX_u (AX_u (AX_u AX_r (Or.inl (by decide))) (Or.inl (by decide))) (Or.inl (by decide))) (Or.inl (by decide))) (Or.inl (by decide))) (Or.inl (by decide))) (Or.inr (Or.inl rfl))
  rcases g4 with ⟨R', f', un1, up1, us1, prg1, op1, num1, ln1, la1, snd1, slk1, rcv1, rlk1, rm1, rw1, rp1, ra1, mem1, rop1, rnum1, rla1, rmem1, rruns1, rj1, asP1, asB1, numf, raf, rnumf, rrunsf, fl', rlb1, asked1, L1, K1, N1, U1, J1, x1, x2, x3, x4, x5, x6⟩ | ⟨f', rest, x1, x2, x3⟩
  · refine Or.inl ⟨R', f', un1, up1, us1, prg1, op1, num1, ln1, la1, snd1, slk1, rcv1, rlk1, rm1, rw1, rp1, ra1, mem1, rop1, rnum1, rla1, rmem1, rruns1, rj1, asP1, asB1, numf, raf, rnumf, rrunsf, fl', rlb1, asked1, L1, K1, N1, U1, J1, ?_, ea.trans x3, x4, x5, AX_t ax1 (AX_t ax0 x6)⟩
    have e := er _ x1
    rw [x1] at x2
    rw [e, x2]
    dsimp only
    rw [x4.1.1]
  · have e := congrArg Prod.fst (er _ rfl)
    refine Or.inr ⟨f', rest, ea.trans x1, ?_, ?_, AX_t ax1 (AX_t ax0 x3)⟩
    · rw [e]
      exact x2.1
    · rw [e]
      exact x2.2
end RDW
