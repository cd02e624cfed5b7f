/-! PURE: a label ahead of an instruction (GENERATED, wip/gen/p/83.py) -/
section LLB
variable {R f tp tr nm un up us asP asB prg op num rop rnum ln la rla : mF} {fl named asked rlb : mFl} {S lo U L N K : Nat}
/-- the labels told so far, M the greatest place one may tell -/
def LB (K M : Nat) (ln la rla : mF) (rlb : mFl) : Prop := (∀ k, k < K → WD (ln k) (rlb k) ∧ rla k = la k ∧ ∃ j : Nat, j ≤ M ∧ la k = nI j) ∧ ∀ k k', k < K → k' < K → k ≠ k' → ln k ≠ ln k'
theorem LB_m {M M' : Nat} (h : LB K M ln la rla rlb) (e : M ≤ M') : LB K M' ln la rla rlb := ⟨fun k hk => by
  obtain ⟨a, b, j, c, d⟩ := h.1 k hk
  exact ⟨a, b, j, by omega, d⟩, h.2⟩
theorem LB_s {M j : Nat} {x v : Int32} {y : Int64} (h : LB K M ln la rla rlb) (hw : WD x y) (hv : v = nI j) (hj : j ≤ M) (hn : ∀ k, k < K → ln k ≠ x) : LB (K + 1) M (upd ln K x) (upd la K v) (upd rla K v) (vp_updL rlb K y) := by
  refine ⟨fun k hk => ?_, fun k k' hk hk' ne => ?_⟩
  · by_cases e : k = K
    · subst e
      rw [pk_us, pk_us, pk_us, pk_uLs]
      exact ⟨hw, rfl, j, hj, hv⟩
    · rw [pk_un e, pk_un e, pk_un e, pk_uLn e]
      exact h.1 k (by omega)
  · by_cases e : k = K
    · subst e
      rw [pk_us, pk_un (Ne.symm ne)]
      exact (hn k' (by omega)).symm
    · rw [pk_un e]
      by_cases e' : k' = K
      · subst e'
        rw [pk_us]
        exact hn k (by omega)
      · rw [pk_un e']
        exact h.2 k k' (by omega) (by omega) ne
theorem l_lab {x : Int32} {M : Nat} (hM : M ≤ 100) (h : LB K M ln la rla rlb) (hw : WD x (fl 12)) (h4 : prg 4 = nI K) (h28 : f 28 = nI K) (hK : K ≤ 101) (hf : ¬ f 8 = 1) : ∀ (m i fuel fuel' : Nat), i + m = K → m < fuel → m < fuel' → OX4_placeOf_b1 fuel x (nI i) prg ln la ∧ ((FX4_placeOf_b1 fuel x (nI i) prg ln la = -1 ∧ (∀ k, i ≤ k → k < K → ln k ≠ x) ∧ ∃ fu : Nat, 0 < fu ∧ FX10_readsLabelled_b2 fuel' (nI i) f fl named tr rop rnum rla rlb asked asP asB = FX10_readsLabelled_b2 fu (nI K) f fl named tr rop rnum rla rlb asked asP asB ∧ (OX10_readsLabelled_b2 fu (nI K) f fl named tr rop rnum rla rlb asked asP asB → OX10_readsLabelled_b2 fuel' (nI i) f fl named tr rop rnum rla rlb asked asP asB)) ∨ (¬ FX4_placeOf_b1 fuel x (nI i) prg ln la = -1 ∧ OX10_readsLabelled_b2 fuel' (nI i) f fl named tr rop rnum rla rlb asked asP asB ∧ FX10_readsLabelled_b2 fuel' (nI i) f fl named tr rop rnum rla rlb asked asP asB = (0, upd (upd f 10 2) 11 (f 7), fl, rop, rnum, rla, rlb, asked, asP, asB)))
  | _, _, 0, _, _, h, _ => absurd h (Nat.not_lt_zero _)
  | _, _, _ + 1, 0, _, _, h => absurd h (Nat.not_lt_zero _)
  | 0, i, fuel + 1, fuel' + 1, hm, _, _ => by
    have c : prg 4 ≤ nI i := by rw [h4]; exact nI_le (by omega) (by omega)
    have e : i = K := by omega
    rw [OX4_placeOf_b1, FX4_placeOf_b1, if_pos c]
    refine ⟨⟨fun _ => trivial, fun z => absurd c z⟩, Or.inl ⟨rfl, fun k h1 h2 => by omega, fuel' + 1, Nat.succ_pos _, ?_, fun q => ?_⟩⟩
    · rw [e]
    · rw [e]
      exact q
  | m + 1, i, fuel + 1, fuel' + 1, hm, _, _ => by
    have c : ¬ prg 4 ≤ nI i := by rw [h4]; exact nI_ge (by omega) (by omega)
    have c2 : ¬ f 28 ≤ nI i := by rw [h28]; exact nI_ge (by omega) (by omega)
    have ci : (nI i).toNatClampNeg = i := nI_clamp (by omega)
    have vi : vp_in (nI i) 101 := vp_in_nI (by omega) (by decide)
    obtain ⟨i1, i2⟩ := l_lab hM h hw h4 h28 hK hf m (i + 1) fuel fuel' (by omega) (by omega) (by omega)
    obtain ⟨w1, w2, j, w3, w4⟩ := h.1 i (by omega)
    have wc := WD_c w1 hw
    rw [OX4_placeOf_b1, FX4_placeOf_b1, OX10_readsLabelled_b2, FX10_readsLabelled_b2, if_neg c, if_neg c2, ci, nI_1]
    by_cases q : ln i = x
    · have q' := wc.mp q
      rw [if_pos q, if_pos q', bad_e hf, w4]
      exact ⟨⟨fun z => absurd z c, fun _ => ⟨vi, fun _ => vi, fun z => absurd q z⟩⟩, Or.inr ⟨nI_nm1 (by omega), ⟨fun z => absurd z c2, fun _ => ⟨vi, fun _ => Or.inl rfl, fun z => absurd q' z⟩⟩, rfl⟩⟩
    · have q' : ¬ lg_cmp (rlb i) (fl 12) = 0 := fun z => q (wc.mpr z)
      rw [if_neg q, if_neg q']
      refine ⟨⟨fun z => absurd z c, fun _ => ⟨vi, fun z => absurd z q, fun _ => i1⟩⟩, ?_⟩
      rcases i2 with ⟨a1, a2, fu, a3, a4, a5⟩ | ⟨a1, a2, a3⟩
      · refine Or.inl ⟨a1, fun k h1 h2 => ?_, fu, a3, a4, fun r => ⟨fun z => absurd z c2, fun _ => ⟨vi, fun z => absurd z q', fun _ => a5 r⟩⟩⟩
        by_cases e : k = i
        · rw [e]
          exact q
        · exact a2 k (by omega) h2
      · exact Or.inr ⟨a1, ⟨fun z => absurd z c2, fun _ => ⟨vi, fun z => absurd z q', fun _ => a2⟩⟩, a3⟩
theorem f_addl {x : Int32} (h4 : prg 4 = nI K) (h1 : prg 1 = nI L) (hK : K ≤ 100) : OX4_addLabel x prg ln la ∧ FX4_addLabel x prg ln la = (0, upd prg 4 (nI (K + 1)), upd ln K x, upd la K (nI L)) := by
  have c : ¬ (101 : Int32) ≤ nI K := nI_ge (show K < 101 by omega) (by decide)
  have vi : vp_in (nI K) 101 := vp_in_nI (by omega) (by decide)
  unfold OX4_addLabel FX4_addLabel
  rw [h4, if_neg c, nI_clamp (by omega), nI_1, h1]
  exact ⟨⟨fun z => absurd z c, fun _ => ⟨vi, vi⟩⟩, rfl⟩
/-- what a line of code leaves -/
def LOK (S lo U L N K : Nat) (R f prg : mF) (R' f' : mF) (fl' : mFl) (prg' op' num' rop' rnum' ln' la' rla' : mF) (rlb' : mFl) (un' up' us' : mF) (asked' : mFl) (asP' asB' : mF) : Prop := ∃ U' K' : Nat, TK S lo R' f' fl' ∧ (∀ j, j ≠ 5 → j ≠ 6 → j ≠ 7 → j ≠ 8 → j ≠ 10 → R' j = R j) ∧ R' 10 = nI U' ∧ (∀ j, j ≠ 6 → j ≠ 7 → j ≠ 8 → j ≠ 9 → j ≠ 37 → j ≠ 27 → j ≠ 28 → j ≠ 32 → f' j = f j) ∧ f' 27 = nI (L + 1) ∧ f' 28 = nI K' ∧ f' 32 = nI U' ∧ (∀ j, j ≠ 1 → j ≠ 4 → prg' j = prg j) ∧ prg' 1 = nI (L + 1) ∧ prg' 4 = nI K' ∧ L < 100 ∧ K' ≤ K ∧ U' ≤ U + 1 ∧ RCo (L + 1) op' num' rop' rnum' ∧ US U' (L + 1) N un' up' us' asked' asP' asB' ∧ LB K' 100 ln' la' rla' rlb'
theorem p_codeL (hN : NMS nm named) (hT : TP tp tr) (hS : S ≤ 700) (h : TK S lo R f fl) (h9 : R 9 = -1) (h10 : R 10 = nI U) (h32 : f 32 = nI U) (hU : L < 100 → U < 112) (h1 : prg 1 = nI L) (h27 : f 27 = nI L) (hL : L ≤ 100) (h4 : prg 4 = nI K) (h28 : f 28 = nI K) (hc : RCo L op num rop rnum) (hu : US U L N un up us asked asP asB) (hl : LB K 100 ln la rla rlb) : OX5_readInstruction_b1 tp R nm un up us prg op num ln la ∧ OX10_readsCode f fl named tr rop rnum asked asP asB ∧ ((∃ (R' un' up' us' prg' op' num' f' rop' rnum' asP' asB' : mF) (fl' asked' : mFl), FX5_readInstruction_b1 tp R nm un up us prg op num ln la = (0, R', un', up', us', prg', op', num', ln, la) ∧ FX10_readsCode f fl named tr rop rnum asked asP asB = (1, f', fl', rop', rnum', asked', asP', asB') ∧ LOK S lo U L N K R f prg R' f' fl' prg' op' num' rop' rnum' ln la rla rlb un' up' us' asked' asP' asB') ∨ ∃ (f' : mF) (rest : mFl × mF × mF × mFl × mF × mF), FX10_readsCode f fl named tr rop rnum asked asP asB = (0, f', rest) ∧ RF (FX5_readInstruction_b1 tp R nm un up us prg op num ln la).2.1 f' ∧ AX f f') := by
  obtain ⟨a1, a2, a3⟩ := p_code (ln := ln) (la := la) hN hT hS h h9 h10 h32 hU h1 h27 hL hc hu
  refine ⟨a1, a2, a3.imp_left ?_⟩
  rintro ⟨U', R', un', up', us', op', num', f', rop', rnum', asP', asB', fl', asked', e1, e2, e3, e4, e5, e6, e7, e8, e9⟩
  refine ⟨R', un', up', us', _, op', num', f', rop', rnum', asP', asB', fl', asked', e1, e2, U', K, e3, ?_, ?_, ?_, ?_, ?_, ?_, ?_, pk_us, ?_, e6, by omega, e9, e7, e8, hl⟩
  · exact fun j i1 i2 i3 i4 i5 => (e4 j i1 i2 i3 i4).trans (pk_un i5)
  · exact (e4 10 (by decide) (by decide) (by decide) (by decide)).trans pk_us
  · exact fun j i1 i2 i3 i4 i5 i6 i7 i8 => (e5 j i1 i2 i3 i4 i5).trans ((pk_un i6).trans (pk_un i8))
  · exact (e5 27 (by decide) (by decide) (by decide) (by decide) (by decide)).trans pk_us
  · exact (e5 28 (by decide) (by decide) (by decide) (by decide) (by decide)).trans ((pk_un (by decide)).trans ((pk_un (by decide)).trans h28))
  · exact (e5 32 (by decide) (by decide) (by decide) (by decide) (by decide)).trans ((pk_un (by decide)).trans pk_us)
  · exact fun j i1 i2 => pk_un i1
  · exact (pk_un (by decide)).trans h4
theorem p_lab (hN : NMS nm named) (hT : TP tp tr) (hS : S ≤ 700) (h : TK S lo R f fl) (h9 : R 9 = -1) (hq : FX5_name R nm = -1) (h10 : R 10 = nI U) (h32 : f 32 = nI U) (hU : L < 100 → U < 112) (h1 : prg 1 = nI L) (h27 : f 27 = nI L) (hL : L ≤ 100) (h4 : prg 4 = nI K) (h28 : f 28 = nI K) (hK : K ≤ 100) (hc : RCo L op num rop rnum) (hu : US U L N un up us asked asP asB) (hl : LB K 100 ln la rla rlb) : OX5_readInstruction tp R nm un up us prg op num ln la ∧ OX10_readsLabelled f fl named tr rop rnum rla rlb asked asP asB ∧ ((∃ (R' un' up' us' prg' op' num' ln' la' f' rop' rnum' rla' asP' asB' : mF) (fl' rlb' asked' : mFl), FX5_readInstruction tp R nm un up us prg op num ln la = (0, R', un', up', us', prg', op', num', ln', la') ∧ FX10_readsLabelled f fl named tr rop rnum rla rlb asked asP asB = (1, f', fl', rop', rnum', rla', rlb', asked', asP', asB') ∧ LOK S lo U L N (K + 1) R f prg R' f' fl' prg' op' num' rop' rnum' ln' la' rla' rlb' un' up' us' asked' asP' asB') ∨ ∃ (f' : mF) (rest : mFl × mF × mF × mF × mFl × mFl × mF × mF), FX10_readsLabelled f fl named tr rop rnum rla rlb asked asP asB = (0, f', rest) ∧ RF (FX5_readInstruction tp R nm un up us prg op num ln la).2.1 f' ∧ AX f f') := by
  have z10 : ¬ (1 : Int32) = 0 := by decide
  obtain ⟨-, -, ⟨hp, p, p1, p2⟩, -⟩ := id h
  obtain ⟨q1, -, -, -⟩ := p_name hN h
  have rf1 := RF_k (R := R) (k := 1) hp p2 (by omega) (by decide)
  have rf2 := RF_k (R := R) (k := 2) hp p2 (by omega) (by decide)
  rcases TK_2 h with ⟨k5, k8, kw, -⟩ | ⟨k5, k8⟩
  · have n1 : ¬ f 8 = 1 := by rw [k8]; decide
    obtain ⟨b1, b2⟩ := l_lab (named := named) (tr := tr) (rop := rop) (rnum := rnum) (asked := asked) (asP := asP) (asB := asB) (Nat.le_refl 100) hl kw h4 h28 (by omega) n1 K 0 10000 10000 (by omega) (by omega) (by omega)
    rw [nI_0] at b1 b2
    have op1 : OX4_placeOf (R 8) prg ln la := by
      unfold OX4_placeOf
      exact b1
    rcases b2 with ⟨a1, a2, fu, a3, a4, a5⟩ | ⟨a1, a2, a3⟩
    · have ep : FX4_placeOf (R 8) prg ln la = -1 := by
        unfold FX4_placeOf
        exact a1
      obtain ⟨fu, rfl⟩ : ∃ j, fu = j + 1 := ⟨fu - 1, by omega⟩
      obtain ⟨l1, l2⟩ := f_addl (x := R 8) (ln := ln) (la := la) h4 h1 hK
      obtain ⟨s1, s2, R1, f1, fl1, s3, s4, s5, s6, s7⟩ := p_next (Rm := R) (fm := upd f 28 (nI (K + 1))) hT hS h k5 rfl rfl (pk_un (by decide)) (pk_un (by decide))
      have r1 := AR_9 s6 h9
      have olab : OX5_readLabel tp R prg ln la := by
        unfold OX5_readLabel
        rw [ep]
        exact ⟨op1, fun _ => ⟨l1, s1⟩, fun z => absurd rfl z⟩
      have ela : FX5_readLabel tp R prg ln la = (0, R1, upd prg 4 (nI (K + 1)), upd ln K (R 8), upd la K (nI L)) := by
        unfold FX5_readLabel
        rw [ep, l2, s3]
        exact if_pos rfl
      have c28 : f 28 ≤ nI K := by rw [h28]; exact Int32.le_refl _
      have v28 : vp_in (nI K) 101 := vp_in_nI (by omega) (by decide)
      have cK : (nI K).toNatClampNeg = K := nI_clamp (by omega)
      obtain ⟨g1, g2⟩ := p_sign 58 (Or.inr rfl) hT hS s5 r1
      rcases g2 with ⟨e1, e2, R2, f2, fl2, e3, e4, e5, e6, e7⟩ | ⟨e1, R2, f2, e3, e4, e5, e6⟩
      · have r2 := AR_9 e6 r1
        have hR : ∀ j, j ≠ 5 → j ≠ 6 → j ≠ 7 → j ≠ 8 → R2 j = R j := AR_t s6 e6
        have hF : ∀ j, j ≠ 6 → j ≠ 7 → j ≠ 8 → j ≠ 9 → f2 j = upd f 28 (nI (K + 1)) j := fun j i1 i2 i3 i4 => (e7 j i1 i2 i3 i4).trans (s7 j i1 i2 i3 i4)
        obtain ⟨m1, m2, m3⟩ := p_codeL (prg := upd prg 4 (nI (K + 1))) (ln := upd ln K (R 8)) (la := upd la K (nI L)) (rla := upd rla K (nI L)) (rlb := vp_updL rlb K (fl 12)) (K := K + 1) hN hT hS e5 r2 ((hR 10 (by decide) (by decide) (by decide) (by decide)).trans h10) ((hF 32 (by decide) (by decide) (by decide) (by decide)).trans ((pk_un (by decide)).trans h32)) hU ((pk_un (by decide)).trans h1) ((hF 27 (by decide) (by decide) (by decide) (by decide)).trans ((pk_un (by decide)).trans h27)) hL pk_us ((hF 28 (by decide) (by decide) (by decide) (by decide)).trans pk_us) hc hu (LB_s hl kw rfl (by omega) (fun k hk => a2 k (Nat.zero_le _) hk))
        have oj : OX5_readInstruction tp R nm un up us prg op num ln la := by
          unfold OX5_readInstruction
          rw [hq, ela]
          dsimp only
          rw [e3]
          exact ⟨fun _ => ⟨q1, fun _ => ⟨olab, g1, m1⟩, fun z => absurd rfl z⟩, fun z => absurd k5 z⟩
        have ej : FX5_readInstruction tp R nm un up us prg op num ln la = FX5_readInstruction_b1 tp R2 nm un up us (upd prg 4 (nI (K + 1))) op num (upd ln K (R 8)) (upd la K (nI L)) := by
          unfold FX5_readInstruction
          refine (if_pos k5).trans ?_
          rw [hq]
          refine (if_pos rfl).trans ?_
          rw [ela]
          dsimp only
          rw [e3]
        have rc01 : (FX10_readsCode f2 fl2 named tr rop rnum asked asP asB).1 = 0 ∨ (FX10_readsCode f2 fl2 named tr rop rnum asked asP asB).1 = 1 := by
          rcases m3 with ⟨R3, un3, up3, us3, prg3, op3, num3, f3, rop3, rnum3, asP3, asB3, fl3, asked3, x1, x2, x3⟩ | ⟨f3, rest, x1, x2, x3⟩
          · rw [x2]; exact Or.inr rfl
          · rw [x1]; exact Or.inl rfl
        have eo : OX10_readsLabelled f fl named tr rop rnum rla rlb asked asP asB := by
          unfold OX10_readsLabelled
          refine ⟨fun _ => a5 ?_, fun z => absurd k8 z⟩
          rw [OX10_readsLabelled_b2, h28, nI_1, s4]
          dsimp only
          rw [e4]
          refine ⟨fun _ => ⟨v28, v28, s2, fun z => absurd z e1, fun _ => ⟨e2, m2, rc01⟩⟩, fun z => absurd (Int32.le_refl _) z⟩
        have er : FX10_readsLabelled f fl named tr rop rnum rla rlb asked asP asB = (let u14 := FX10_readsCode f2 fl2 named tr rop rnum asked asP asB; (u14.1, u14.2.1, u14.2.2.1, u14.2.2.2.1, u14.2.2.2.2.1, upd rla K (nI L), vp_updL rlb K (fl 12), u14.2.2.2.2.2.1, u14.2.2.2.2.2.2.1, u14.2.2.2.2.2.2.2)) := by
          unfold FX10_readsLabelled
          refine (if_pos k8).trans (a4.trans ?_)
          rw [FX10_readsLabelled_b2]
          refine (if_pos c28).trans ?_
          rw [h28, nI_1, s4]
          refine (if_neg e1).trans ?_
          dsimp only
          rw [e4, cK, h27]
        refine ⟨oj, eo, ?_⟩
        rw [ej, er]
        rcases m3 with ⟨R3, un3, up3, us3, prg3, op3, num3, f3, rop3, rnum3, asP3, asB3, fl3, asked3, x1, x2, U', K', y1, y2, y3, y4, y5, y6, y7, y8, y9, y10, y11, y12, y13, y14, y15, y16⟩ | ⟨f3, rest, x1, x2, x3⟩
        · rw [x2]
          refine Or.inl ⟨R3, un3, up3, us3, prg3, op3, num3, _, _, f3, rop3, rnum3, _, asP3, asB3, fl3, _, asked3, x1, rfl, U', K', TK_lo y1 (by omega), ?_, y3, ?_, y5, y6, y7, ?_, y9, y10, y11, ?_, y13, y14, y15, y16⟩
          · exact fun j i1 i2 i3 i4 i5 => (y2 j i1 i2 i3 i4 i5).trans (hR j i1 i2 i3 i4)
          · exact fun j i1 i2 i3 i4 i5 i6 i7 i8 => (y4 j i1 i2 i3 i4 i5 i6 i7 i8).trans ((hF j i1 i2 i3 i4).trans (pk_un i7))
          · exact fun j i1 i2 => (y8 j i1 i2).trans (pk_un i2)
          · omega
        · rw [x1]
          exact Or.inr ⟨f3, _, rfl, x2, AX_t (AX_t (AX_w (AX_F s7) (Or.inl (by decide))) (AX_F e7)) x3⟩
      · obtain ⟨t1, t2⟩ := ft_b1 (R := R2) (tp := tp) (nm := nm) (un := un) (up := up) (us := us) (prg := upd prg 4 (nI (K + 1))) (op := op) (num := num) (ln := upd ln K (R 8)) (la := upd la K (nI L)) e5.1
        refine ⟨?_, ?_, Or.inr ⟨f2, (fl1, rop, rnum, upd rla K (nI L), vp_updL rlb K (fl 12), asked, asP, asB), ?_, ?_, AX_t (AX_w (AX_F s7) (Or.inl (by decide))) e6⟩⟩
        · unfold OX5_readInstruction
          rw [hq, ela]
          dsimp only
          rw [e3]
          exact ⟨fun _ => ⟨q1, fun _ => ⟨olab, g1, t1⟩, fun z => absurd rfl z⟩, fun z => absurd k5 z⟩
        · unfold OX10_readsLabelled
          refine ⟨fun _ => a5 ?_, fun z => absurd k8 z⟩
          rw [OX10_readsLabelled_b2, h28, nI_1, s4]
          refine ⟨fun _ => ⟨v28, v28, s2, fun _ => bad_z, fun z => absurd e1 z⟩, fun z => absurd (Int32.le_refl _) z⟩
        · unfold FX10_readsLabelled
          refine (if_pos k8).trans (a4.trans ?_)
          rw [FX10_readsLabelled_b2]
          refine (if_pos c28).trans ?_
          rw [h28, nI_1, s4]
          refine (if_pos e1).trans ?_
          dsimp only
          rw [e4, cK, h27]
        · have ej : FX5_readInstruction tp R nm un up us prg op num ln la = FX5_readInstruction_b1 tp R2 nm un up us (upd prg 4 (nI (K + 1))) op num (upd ln K (R 8)) (upd la K (nI L)) := by
            unfold FX5_readInstruction
            refine (if_pos k5).trans ?_
            rw [hq]
            refine (if_pos rfl).trans ?_
            rw [ela]
            dsimp only
            rw [e3]
          rw [ej, t2]
          exact e5
    · have ep : ¬ FX4_placeOf (R 8) prg ln la = -1 := by
        unfold FX4_placeOf
        exact a1
      have ela : FX5_readLabel tp R prg ln la = (0, upd R 9 (8 * R 6 + 2), prg, ln, la) := by
        unfold FX5_readLabel
        refine (if_neg ep).trans ?_
        rw [fail_e (x := R 6) (k := 2) h9]
      have olab : OX5_readLabel tp R prg ln la := by
        unfold OX5_readLabel
        exact ⟨op1, fun z => absurd z ep, fun _ => trivial⟩
      obtain ⟨g1, g2⟩ := ft_sign (R := upd R 9 (8 * R 6 + 2)) (tp := tp) 58 rf2.1
      obtain ⟨t1, t2⟩ := ft_b1 (R := upd R 9 (8 * R 6 + 2)) (tp := tp) (nm := nm) (un := un) (up := up) (us := us) (prg := prg) (op := op) (num := num) (ln := ln) (la := la) rf2.1
      refine ⟨?_, ?_, Or.inr ⟨upd (upd f 10 2) 11 (f 7), (fl, rop, rnum, rla, rlb, asked, asP, asB), ?_, ?_, AX_b⟩⟩
      · unfold OX5_readInstruction
        rw [hq, ela]
        dsimp only
        rw [g2]
        exact ⟨fun _ => ⟨q1, fun _ => ⟨olab, g1, t1⟩, fun z => absurd rfl z⟩, fun z => absurd k5 z⟩
      · unfold OX10_readsLabelled
        exact ⟨fun _ => a2, fun z => absurd k8 z⟩
      · unfold FX10_readsLabelled
        exact (if_pos k8).trans a3
      · have ej : FX5_readInstruction tp R nm un up us prg op num ln la = FX5_readInstruction_b1 tp (upd R 9 (8 * R 6 + 2)) nm un up us prg op num ln la := by
          unfold FX5_readInstruction
          refine (if_pos k5).trans ?_
          rw [hq]
          refine (if_pos rfl).trans ?_
          rw [ela]
          dsimp only
          rw [g2]
        rw [ej, t2]
        exact rf2
  · have t1 := fun y1 : Int32 => ft_b4 (R := upd R 9 (8 * R 6 + 1)) (y1 := y1) (tp := tp) (nm := nm) (un := un) (up := up) (us := us) (prg := prg) (op := op) (num := num) (ln := ln) (la := la) rf1.1
    refine ⟨?_, ?_, Or.inr ⟨upd (upd f 10 1) 11 (f 7), (fl, rop, rnum, rla, rlb, asked, asP, asB), ?_, ?_, AX_b⟩⟩
    · unfold OX5_readInstruction OX5_readInstruction_b1
      rw [hq, fail_e (x := R 6) (k := 1) h9]
      exact ⟨fun z => absurd z k5, fun _ => ⟨q1, fun _ => (t1 _).1, fun z => absurd rfl z⟩⟩
    · unfold OX10_readsLabelled
      exact ⟨fun z => absurd z k8, fun _ => bad_z⟩
    · unfold FX10_readsLabelled
      refine (if_neg k8).trans ?_
      rw [bad_1]
    · have ej : FX5_readInstruction tp R nm un up us prg op num ln la = (0, upd R 9 (8 * R 6 + 1), un, up, us, prg, op, num, ln, la) := by
        unfold FX5_readInstruction
        refine (if_neg k5).trans ?_
        unfold FX5_readInstruction_b1
        rw [hq]
        refine (if_pos rfl).trans ?_
        rw [fail_e (x := R 6) (k := 1) h9]
        exact (t1 _).2
      rw [ej]
      exact rf1
end LLB
