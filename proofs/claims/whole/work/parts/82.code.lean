/-! PURE: a line that tells an instruction (GENERATED, wip/gen/p/82.py) -/
section LCD
variable {R f tp tr nm un up us asP asB prg op num rop rnum ln la : mF} {fl named asked : mFl} {S lo U L N : Nat}
/-- the instructions told so far -/
def RCo (L : Nat) (op num rop rnum : mF) : Prop := ∀ k, k < L → rop k = op k ∧ rnum k = num k ∧ (∃ j : Nat, j < 39 ∧ op k = nI j) ∧ ((op k = 7 ∨ op k = 8) → ¬ num k < 0)
theorem RCo_s {k : Nat} {x : Int32} (h : RCo L op num rop rnum) (hk : k < 39) (hx : (k = 7 ∨ k = 8) → x = 0) : RCo (L + 1) (upd op L (nI k)) (upd num L x) (upd rop L (nI k)) (upd rnum L x) := by
  intro j hj
  by_cases e : j = L
  · subst e
    rw [pk_us, pk_us, pk_us, pk_us]
    refine ⟨rfl, rfl, ⟨k, hk, rfl⟩, fun q => ?_⟩
    rw [hx (q.imp (fun z => (nI_eq (a := k) (b := 7) (by omega) (by decide)).mp z) (fun z => (nI_eq (a := k) (b := 8) (by omega) (by decide)).mp z))]
    decide
  · rw [pk_un e, pk_un e, pk_un e, pk_un e]
    exact h j (by omega)
theorem US_L (h : US U L N un up us asked asP asB) : US U (L + 1) N un up us asked asP asB := ⟨fun u hu => by
  obtain ⟨a, b, c, d, j, j1, j2⟩ := h.1 u hu
  exact ⟨a, b, c, d, j, j1, by omega⟩, h.2⟩
theorem o_addi {x1 x2 : Int32} (h1 : prg 1 = nI L) (hL : L ≤ 100) : OX4_addInstruction x1 x2 prg op num := by
  unfold OX4_addInstruction
  rw [h1]
  refine ⟨fun _ => trivial, fun z => ?_⟩
  have : L ≤ 99 := by
    rcases Nat.lt_or_ge 99 L with q | q
    · exact absurd (nI_le (show 100 ≤ L by omega) (by omega)) z
    · exact q
  have vi : vp_in (nI L) 100 := vp_in_nI (by omega) (by decide)
  exact ⟨vi, vi⟩
theorem f_addi {x1 x2 : Int32} (h1 : prg 1 = nI L) (hL : L ≤ 99) : FX4_addInstruction x1 x2 prg op num = (0, upd prg 1 (nI (L + 1)), upd op L x1, upd num L x2) := by
  have c : ¬ (100 : Int32) ≤ nI L := nI_ge (show L < 100 by omega) (by decide)
  unfold FX4_addInstruction
  rw [h1, if_neg c, nI_clamp (by omega), nI_1]
theorem ft_b4 {y1 : Int32} (h9 : ¬ R 9 = -1) : OX5_readInstruction_b4 y1 tp R nm un up us prg op num ln la ∧ FX5_readInstruction_b4 y1 tp R nm un up us prg op num ln la = (0, R, un, up, us, prg, op, num, ln, la) := by
  unfold OX5_readInstruction_b4 FX5_readInstruction_b4
  exact ⟨⟨fun z => absurd z h9, fun _ => trivial⟩, if_neg h9⟩
theorem ft_b1 (h9 : ¬ R 9 = -1) : OX5_readInstruction_b1 tp R nm un up us prg op num ln la ∧ (FX5_readInstruction_b1 tp R nm un up us prg op num ln la).2.1 = R := by
  have t := fun y1 : Int32 => ft_b4 (y1 := y1) (tp := tp) (nm := nm) (un := un) (up := up) (us := us) (prg := prg) (op := op) (num := num) (ln := ln) (la := la) h9
  unfold OX5_readInstruction_b1 FX5_readInstruction_b1
  rw [fail_f h9, fail_f h9]
  refine ⟨⟨o_name, fun _ => (t _).1, fun _ => ⟨fun _ => ⟨fun _ => (t _).1, fun _ => (t _).1⟩, fun _ => (t _).1⟩⟩, ?_⟩
  dsimp only
  rw [(t _).2]
  split
  · rfl
  · split
    · split <;> rfl
    · rfl
theorem isIn38 {k : Nat} (hk : k < 43) : FX10_isIn (nI k) 0 38 = if k < 39 then 1 else 0 := by
  have c1 : ¬ nI k < 0 := nI_pos (by omega)
  unfold FX10_isIn
  rw [if_neg c1]
  rcases Nat.lt_or_ge k 39 with q | q
  · have c2 : ¬ (38 : Int32) < nI k := fun z => by
      have := (nI_ltI (a := 38) (b := k) (by decide) (by omega)).mp z
      omega
    rw [if_neg c2, if_pos q]
  · have c2 : (38 : Int32) < nI k := nI_lt (show 38 < k by omega) (by omega)
    rw [if_pos c2, if_neg (by omega)]
theorem p_code (hN : NMS nm named) (hT : TP tp tr) (hS : S ≤ 700) (h : TK S lo R f fl) (h9 : R 9 = -1) (h10 : R 10 = nI U) (h32 : f 32 = nI U) (hU : L < 100 → U < 112) (h1 : prg 1 = nI L) (h27 : f 27 = nI L) (hL : L ≤ 100) (hc : RCo L op num rop rnum) (hu : US U L N un up us asked asP asB) : OX5_readInstruction_b1 tp R nm un up us prg op num ln la ∧ OX10_readsCode f fl named tr rop rnum asked asP asB ∧ ((∃ (U' : Nat) (R' un' up' us' op' num' f' rop' rnum' asP' asB' : mF) (fl' asked' : mFl), FX5_readInstruction_b1 tp R nm un up us prg op num ln la = (0, R', un', up', us', upd prg 1 (nI (L + 1)), op', num', ln, la) ∧ FX10_readsCode f fl named tr rop rnum asked asP asB = (1, f', fl', rop', rnum', asked', asP', asB') ∧ TK S lo R' f' fl' ∧ AR (upd R 10 (nI U')) R' ∧ AN (upd (upd f 32 (nI U')) 27 (nI (L + 1))) f' ∧ L < 100 ∧ RCo (L + 1) op' num' rop' rnum' ∧ US U' (L + 1) N un' up' us' asked' asP' asB' ∧ U' ≤ U + 1) ∨ ∃ (f' : mF) (rest : mFl × mF × mF × mFl × mF × mF), FX10_readsCode f fl named tr rop rnum asked asP asB = (0, f', rest) ∧ RF (FX5_readInstruction_b1 tp R nm un up us prg op num ln la).2.1 f' ∧ AX f f') := by
  have z10 : ¬ (1 : Int32) = 0 := by decide
  obtain ⟨-, -, ⟨hp, p, p1, p2⟩, -⟩ := id h
  obtain ⟨q1, q2, q3, q4⟩ := p_name hN h
  have rf1 := RF_k (R := R) (k := 1) hp p2 (by omega) (by decide)
  have rf4 := RF_k (R := R) (k := 4) hp p2 (by omega) (by decide)
  have t1 := fun y1 : Int32 => ft_b4 (R := upd R 9 (8 * R 6 + 1)) (y1 := y1) (tp := tp) (nm := nm) (un := un) (up := up) (us := us) (prg := prg) (op := op) (num := num) (ln := ln) (la := la) rf1.1
  have t4 := fun y1 : Int32 => ft_b4 (R := upd R 9 (8 * R 6 + 4)) (y1 := y1) (tp := tp) (nm := nm) (un := un) (up := up) (us := us) (prg := prg) (op := op) (num := num) (ln := ln) (la := la) rf4.1
  rcases q4 with q4 | ⟨k, hk, q4, k5, k8⟩
  · have e0 : FX10_isIn (-1) 0 38 = 0 := rfl
    refine ⟨?_, ?_, Or.inr ⟨upd (upd f 10 1) 11 (f 7), (fl, rop, rnum, asked, asP, asB), ?_, ?_, AX_b⟩⟩
    · unfold OX5_readInstruction_b1
      rw [q4, fail_e (x := R 6) (k := 1) h9]
      exact ⟨q1, fun _ => (t1 _).1, fun z => absurd rfl z⟩
    · unfold OX10_readsCode
      rw [q3, q4]
      exact ⟨q2, fun _ => bad_z, fun z => absurd e0 z⟩
    · unfold FX10_readsCode
      rw [q3, q4]
      refine (if_pos e0).trans ?_
      rw [bad_1]
    · unfold FX5_readInstruction_b1
      rw [q4, if_pos rfl, fail_e (x := R 6) (k := 1) h9]
      dsimp only
      rw [(t1 _).2]
      exact rf1
  · have m1 : ¬ nI k = -1 := nI_nm1 (by omega)
    have i38 := isIn38 hk
    have n1 : ¬ f 8 = 1 := by rw [k8]; decide
    rcases Nat.lt_or_ge k 39 with k39 | k39
    · have c39 : nI k < 39 := nI_lt k39 (by decide)
      have e1 : ¬ FX10_isIn (nI k) 0 38 = 0 := by rw [i38, if_pos k39]; decide
      rcases Nat.lt_or_ge L 100 with l1 | l1
      · have d1 : prg 1 < 100 := by rw [h1]; exact nI_lt l1 (by decide)
        have d2 : ¬ f 27 = 100 := by
          rw [h27]
          intro z
          have := (nI_eq (a := L) (b := 100) (by omega) (by decide)).mp z
          omega
        obtain ⟨s1, s2, R1, f1, fl1, s3, s4, s5, s6, s7⟩ := p_next (Rm := R) (fm := f) hT hS h k5 rfl rfl rfl rfl
        have r1 := AR_9 s6 h9
        have w27 : f1 27 = nI L := (s7 27 (by decide) (by decide) (by decide) (by decide)).trans h27
        have vL : vp_in (nI L) 100 := vp_in_nI l1 (by decide)
        have cL : (nI L).toNatClampNeg = L := nI_clamp (by omega)
        rcases Nat.lt_or_ge k 7 with k7 | k7
        · have c7 : ¬ (7 : Int32) ≤ nI k := nI_ge k7 (by decide)
          obtain ⟨n3, n4, n5⟩ := p_number (-9999) 9999 hT hS s5 r1
          rcases n5 with ⟨v, R2, f2, fl2, a1, a2, a3, a4, a5, a6, -⟩ | ⟨R2, f2, a1, a2, a3, a4⟩
          · have w27' : f2 27 = nI L := (a5 27 (by decide) (by decide) (by decide) (by decide) (by decide)).trans w27
            refine ⟨?_, ?_, Or.inl ⟨U, R2, un, up, us, upd op L (nI k), upd num L v, upd f2 27 (nI (L + 1)), upd rop L (nI k), upd (upd rnum L 0) L v, asP, asB, fl2, asked, ?_, ?_, ?_, ?_, ?_, l1, ?_, US_L hu, by omega⟩⟩
            · unfold OX5_readInstruction_b1 OX5_readInstruction_b4
              rw [q4, s3]
              dsimp only
              rw [a1]
              exact ⟨q1, fun z => absurd z m1, fun _ => ⟨fun _ => ⟨fun _ => ⟨fun _ => ⟨s1, fun z => absurd z c7, fun _ => ⟨n3, o_addi h1 hL⟩⟩, fun z => absurd h9 z⟩, fun z => absurd d1 z⟩, fun z => absurd c39 z⟩⟩
            · unfold OX10_readsCode
              rw [q3, q4, s4]
              dsimp only
              rw [a2, w27]
              dsimp only
              rw [w27']
              exact ⟨q2, fun z => absurd z e1, fun _ => ⟨fun z => absurd z d2, fun _ => ⟨s2, vL, vL, fun z => absurd z c7, fun _ => ⟨n4, fun z => absurd z z10, fun _ => vL⟩⟩⟩⟩
            · unfold FX5_readInstruction_b1
              rw [q4]
              refine (if_neg m1).trans ((if_pos c39).trans ((if_pos d1).trans ?_))
              unfold FX5_readInstruction_b4
              refine (if_pos h9).trans ?_
              rw [s3]
              refine (if_neg c7).trans ?_
              rw [a1]
              dsimp only
              rw [f_addi h1 (by omega)]
            · unfold FX10_readsCode
              rw [q3, q4]
              refine (if_neg e1).trans ((if_neg d2).trans ?_)
              rw [s4]
              refine (if_neg c7).trans ?_
              rw [a2]
              refine (if_neg z10).trans ?_
              dsimp only
              rw [w27, w27', cL, a6, nI_1]
            · obtain ⟨t1, t2, ⟨t3, t4⟩, t5⟩ := a3
              refine ⟨t1, (pk_un (by decide)).trans t2, ⟨?_, ?_⟩, ?_⟩
              · rw [pk_un (by decide)]; exact t3
              · rw [pk_un (by decide)]; exact t4
              · rw [pk_un (by decide), pk_un (by decide), pk_un (by decide)]; exact t5
            · rw [upd_self h10]
              exact AR_t s6 a4
            · rw [upd_self h32]
              intro j i1 i2 i3 i4 i5
              by_cases e : j = 27
              · subst e
                exact pk_us.trans pk_us.symm
              · exact (pk_un e).trans ((a5 j i1 i2 i3 i4 i5).trans ((s7 j i1 i2 i3 i4).trans (pk_un e).symm))
            · rw [upd_twice]
              exact RCo_s hc k39 (fun z => by omega)
          · refine ⟨?_, ?_, Or.inr ⟨f2, (fl1, upd rop L (nI k), upd rnum L 0, asked, asP, asB), ?_, ?_, AX_t (AX_F s7) a4⟩⟩
            · unfold OX5_readInstruction_b1 OX5_readInstruction_b4
              rw [q4, s3]
              dsimp only
              rw [a1]
              exact ⟨q1, fun z => absurd z m1, fun _ => ⟨fun _ => ⟨fun _ => ⟨fun _ => ⟨s1, fun z => absurd z c7, fun _ => ⟨n3, o_addi h1 hL⟩⟩, fun z => absurd h9 z⟩, fun z => absurd d1 z⟩, fun z => absurd c39 z⟩⟩
            · unfold OX10_readsCode
              rw [q3, q4, s4]
              dsimp only
              rw [a2, w27]
              exact ⟨q2, fun z => absurd z e1, fun _ => ⟨fun z => absurd z d2, fun _ => ⟨s2, vL, vL, fun z => absurd z c7, fun _ => ⟨n4, fun _ => trivial, fun z => absurd rfl z⟩⟩⟩⟩
            · unfold FX10_readsCode
              rw [q3, q4]
              refine (if_neg e1).trans ((if_neg d2).trans ?_)
              rw [s4]
              refine (if_neg c7).trans ?_
              rw [a2]
              refine (if_pos rfl).trans ?_
              dsimp only
              rw [w27, cL]
            · have ej : FX5_readInstruction_b1 tp R nm un up us prg op num ln la = (0, R2, un, up, us, upd prg 1 (nI (L + 1)), upd op L (nI k), upd num L (-9999), ln, la) := by
                unfold FX5_readInstruction_b1
                rw [q4]
                refine (if_neg m1).trans ((if_pos c39).trans ((if_pos d1).trans ?_))
                unfold FX5_readInstruction_b4
                refine (if_pos h9).trans ?_
                rw [s3]
                refine (if_neg c7).trans ?_
                rw [a1]
                dsimp only
                rw [f_addi h1 (by omega)]
              rw [ej]
              exact a3
        · have c7 : (7 : Int32) ≤ nI k := nI_le (show 7 ≤ k from k7) (by omega)
          rcases Nat.lt_or_ge k 10 with k10 | k10
          · have c10 : ¬ (10 : Int32) ≤ nI k := nI_ge k10 (by decide)
            have g10 : R1 10 = nI U := (s6 10 (by decide) (by decide) (by decide) (by decide)).trans h10
            have g32 : f1 32 = nI U := (s7 32 (by decide) (by decide) (by decide) (by decide)).trans h32
            obtain ⟨u1, u2, u3⟩ := p_use (un := un) (up := up) (us := us) (asked := asked) (asP := asP) (asB := asB) (nI L) hN hT hS s5 r1 g10 g32 (hU l1)
            have oj : OX5_readInstruction_b1 tp R nm un up us prg op num ln la := by
              unfold OX5_readInstruction_b1 OX5_readInstruction_b4
              rw [q4, s3]
              dsimp only
              rw [h1]
              exact ⟨q1, fun z => absurd z m1, fun _ => ⟨fun _ => ⟨fun _ => ⟨fun _ => ⟨s1, fun _ => ⟨fun z => absurd z c10, fun _ => ⟨u1, o_addi h1 hL⟩⟩, fun z => absurd c7 z⟩, fun z => absurd h9 z⟩, fun z => absurd (by rw [← h1]; exact d1) z⟩, fun z => absurd c39 z⟩⟩
            have eo : OX10_readsCode f fl named tr rop rnum asked asP asB := by
              unfold OX10_readsCode
              rw [q3, q4, s4]
              dsimp only
              rw [w27]
              exact ⟨q2, fun z => absurd z e1, fun _ => ⟨fun z => absurd z d2, fun _ => ⟨s2, vL, vL, fun _ => ⟨fun z => absurd z c10, fun _ => u2⟩, fun z => absurd c7 z⟩⟩⟩
            rcases u3 with ⟨R5, f5, fl5, x1, x2, x3, x4, x5, x6, x7, pq, x8, x9⟩ | ⟨R5, f5, x1, x2, x3, x4⟩
            · have k27 : f5 27 = nI L := (x5 27 (by decide) (by decide) (by decide) (by decide)).trans ((pk_un (by decide)).trans w27)
              refine ⟨oj, eo, Or.inl ⟨U + 1, R5, upd un U (R1 8), upd up U (R1 6), upd us U (nI L), upd op L (nI k), upd num L 0, upd f5 27 (nI (L + 1)), upd rop L (nI k), upd rnum L 0, upd asP U (f1 7), upd asB U (nI L), fl5, vp_updL asked U (fl1 12), ?_, ?_, ?_, ?_, ?_, l1, RCo_s hc k39 (fun _ => rfl), US_s hu x6 x7 x9 (by omega) (by omega) (Nat.le_refl _) (Or.inl (by omega)) (fun j hj => Or.inl hj), by omega⟩⟩
              · unfold FX5_readInstruction_b1
                rw [q4]
                refine (if_neg m1).trans ((if_pos c39).trans ((if_pos d1).trans ?_))
                unfold FX5_readInstruction_b4
                refine (if_pos h9).trans ?_
                rw [s3]
                refine (if_pos c7).trans ((if_neg c10).trans ?_)
                dsimp only
                rw [h1, x1, f_addi h1 (by omega)]
              · unfold FX10_readsCode
                rw [q3, q4]
                refine (if_neg e1).trans ((if_neg d2).trans ?_)
                rw [s4]
                refine (if_pos c7).trans ((if_neg c10).trans ?_)
                rw [(congrArg (fun w => FX10_readsLabel w f1 fl1 named tr asked asP asB) w27).trans x2]
                refine (if_neg z10).trans ?_
                dsimp only
                rw [w27, cL, k27, nI_1]
              · obtain ⟨t1, t2, ⟨t3, t4⟩, t5⟩ := x3
                refine ⟨t1, (pk_un (by decide)).trans t2, ⟨?_, ?_⟩, ?_⟩
                · rw [pk_un (by decide)]; exact t3
                · rw [pk_un (by decide)]; exact t4
                · rw [pk_un (by decide), pk_un (by decide), pk_un (by decide)]; exact t5
              · intro j i1 i2 i3 i4
                by_cases e : j = 10
                · subst e
                  exact (x4 10 i1 i2 i3 i4).trans (pk_us.trans pk_us.symm)
                · exact (x4 j i1 i2 i3 i4).trans ((pk_un e).trans ((s6 j i1 i2 i3 i4).trans (pk_un e).symm))
              · intro j i1 i2 i3 i4 i5
                by_cases e : j = 27
                · subst e
                  exact pk_us.trans pk_us.symm
                · refine (pk_un e).trans ((x5 j i1 i2 i3 i4).trans (Eq.trans ?_ (pk_un e).symm))
                  by_cases e2 : j = 32
                  · subst e2
                    exact pk_us.trans pk_us.symm
                  · exact (pk_un e2).trans ((s7 j i1 i2 i3 i4).trans (pk_un e2).symm)
            · refine ⟨oj, eo, Or.inr ⟨f5, (fl1, upd rop L (nI k), upd rnum L 0, asked, asP, asB), ?_, ?_, AX_t (AX_F s7) x4⟩⟩
              · unfold FX10_readsCode
                rw [q3, q4]
                refine (if_neg e1).trans ((if_neg d2).trans ?_)
                rw [s4]
                refine (if_pos c7).trans ((if_neg c10).trans ?_)
                rw [(congrArg (fun w => FX10_readsLabel w f1 fl1 named tr asked asP asB) w27).trans x2]
                refine (if_pos rfl).trans ?_
                dsimp only
                rw [w27, cL]
              · have ej : FX5_readInstruction_b1 tp R nm un up us prg op num ln la = (0, R5, un, up, us, upd prg 1 (nI (L + 1)), upd op L (nI k), upd num L 0, ln, la) := by
                  unfold FX5_readInstruction_b1
                  rw [q4]
                  refine (if_neg m1).trans ((if_pos c39).trans ((if_pos d1).trans ?_))
                  unfold FX5_readInstruction_b4
                  refine (if_pos h9).trans ?_
                  rw [s3]
                  refine (if_pos c7).trans ((if_neg c10).trans ?_)
                  dsimp only
                  rw [h1, x1, f_addi h1 (by omega)]
                rw [ej]
                exact x3
          · have c10 : (10 : Int32) ≤ nI k := nI_le (show 10 ≤ k from k10) (by omega)
            refine ⟨?_, ?_, Or.inl ⟨U, R1, un, up, us, upd op L (nI k), upd num L 0, upd f1 27 (nI (L + 1)), upd rop L (nI k), upd rnum L 0, asP, asB, fl1, asked, ?_, ?_, ?_, ?_, ?_, l1, RCo_s hc k39 (fun _ => rfl), US_L hu, by omega⟩⟩
            · unfold OX5_readInstruction_b1 OX5_readInstruction_b4
              rw [q4, s3]
              exact ⟨q1, fun z => absurd z m1, fun _ => ⟨fun _ => ⟨fun _ => ⟨fun _ => ⟨s1, fun _ => ⟨fun _ => o_addi h1 hL, fun z => absurd c10 z⟩, fun z => absurd c7 z⟩, fun z => absurd h9 z⟩, fun z => absurd d1 z⟩, fun z => absurd c39 z⟩⟩
            · unfold OX10_readsCode
              rw [q3, q4, s4]
              dsimp only
              rw [w27]
              exact ⟨q2, fun z => absurd z e1, fun _ => ⟨fun z => absurd z d2, fun _ => ⟨s2, vL, vL, fun _ => ⟨fun _ => trivial, fun z => absurd c10 z⟩, fun z => absurd c7 z⟩⟩⟩
            · unfold FX5_readInstruction_b1
              rw [q4]
              refine (if_neg m1).trans ((if_pos c39).trans ((if_pos d1).trans ?_))
              unfold FX5_readInstruction_b4
              refine (if_pos h9).trans ?_
              rw [s3]
              refine (if_pos c7).trans ((if_pos c10).trans ?_)
              rw [f_addi h1 (by omega)]
            · unfold FX10_readsCode
              rw [q3, q4]
              refine (if_neg e1).trans ((if_neg d2).trans ?_)
              rw [s4]
              refine (if_pos c7).trans ((if_pos c10).trans ?_)
              dsimp only
              rw [w27, cL, nI_1]
            · obtain ⟨t1, t2, ⟨t3, t4⟩, t5⟩ := s5
              refine ⟨t1, (pk_un (by decide)).trans t2, ⟨?_, ?_⟩, ?_⟩
              · rw [pk_un (by decide)]; exact t3
              · rw [pk_un (by decide)]; exact t4
              · rw [pk_un (by decide), pk_un (by decide), pk_un (by decide)]; exact t5
            · rw [upd_self h10]
              exact s6
            · rw [upd_self h32]
              intro j i1 i2 i3 i4 i5
              by_cases e : j = 27
              · subst e
                exact pk_us.trans pk_us.symm
              · exact (pk_un e).trans ((s7 j i1 i2 i3 i4).trans (pk_un e).symm)
      · have e100 : L = 100 := by omega
        have d1 : ¬ prg 1 < 100 := by rw [h1, e100]; decide
        have d2 : f 27 = 100 := by rw [h27, e100]; rfl
        refine ⟨?_, ?_, Or.inr ⟨upd (upd f 10 4) 11 (f 7), (fl, rop, rnum, asked, asP, asB), ?_, ?_, AX_b⟩⟩
        · unfold OX5_readInstruction_b1
          rw [q4, fail_e (x := R 6) (k := 4) h9]
          exact ⟨q1, fun z => absurd z m1, fun _ => ⟨fun _ => ⟨fun z => absurd z d1, fun _ => (t4 _).1⟩, fun z => absurd c39 z⟩⟩
        · unfold OX10_readsCode
          rw [q3, q4]
          exact ⟨q2, fun z => absurd z e1, fun _ => ⟨fun _ => bad_z, fun z => absurd d2 z⟩⟩
        · unfold FX10_readsCode
          rw [q3, q4]
          refine (if_neg e1).trans ((if_pos d2).trans ?_)
          rw [bad_e (k := 4) n1]
        · have ej : FX5_readInstruction_b1 tp R nm un up us prg op num ln la = (0, upd R 9 (8 * R 6 + 4), un, up, us, prg, op, num, ln, la) := by
            unfold FX5_readInstruction_b1
            rw [q4]
            refine (if_neg m1).trans ((if_pos c39).trans ((if_neg d1).trans ?_))
            rw [fail_e (x := R 6) (k := 4) h9]
            exact (t4 _).2
          rw [ej]
          exact rf4
    · have c39 : ¬ nI k < 39 := fun z => by
        have := (nI_ltI (a := k) (b := 39) (by omega) (by decide)).mp z
        omega
      have e1 : FX10_isIn (nI k) 0 38 = 0 := by rw [i38, if_neg (by omega)]
      refine ⟨?_, ?_, Or.inr ⟨upd (upd f 10 1) 11 (f 7), (fl, rop, rnum, asked, asP, asB), ?_, ?_, AX_b⟩⟩
      · unfold OX5_readInstruction_b1
        rw [q4, fail_e (x := R 6) (k := 1) h9]
        exact ⟨q1, fun z => absurd z m1, fun _ => ⟨fun z => absurd z c39, fun _ => (t1 _).1⟩⟩
      · unfold OX10_readsCode
        rw [q3, q4]
        exact ⟨q2, fun _ => bad_z, fun z => absurd e1 z⟩
      · unfold FX10_readsCode
        rw [q3, q4]
        refine (if_pos e1).trans ?_
        rw [bad_1]
      · have ej : FX5_readInstruction_b1 tp R nm un up us prg op num ln la = (0, upd R 9 (8 * R 6 + 1), un, up, us, prg, op, num, ln, la) := by
          unfold FX5_readInstruction_b1
          rw [q4]
          refine (if_neg m1).trans ((if_neg c39).trans ?_)
          rw [fail_e (x := R 6) (k := 1) h9]
          exact (t1 _).2
        rw [ej]
        exact rf1
end LCD
