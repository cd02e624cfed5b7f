/-! PURE: the uses of labels found, on both sides (GENERATED, wip/gen/p/86.py) -/
section FND
variable {R f tp tr un up us asP asB prg op num rnum ln la rla ra rruns rm rw_ rp : mF} {asked rlb : mFl} {U L N K : Nat}
theorem l_fs {x : Int32} {y1 : Nat} {y : Int64} (hl : LB K 100 ln la rla rlb) (hw : WD x y) (ey : asked y1 = y) (h1 : y1 < 112) (h4 : prg 4 = nI K) (h28 : f 28 = nI K) (hK : K ≤ 101) : ∀ (m i fuel fuel' : Nat), i + m = K → m < fuel → m < fuel' → OX4_placeOf_b1 fuel x (nI i) prg ln la ∧ (∀ r, OX10_findsLabels_b2 fuel' (nI y1) r (nI i) f rla rlb asked) ∧ ((FX4_placeOf_b1 fuel x (nI i) prg ln la = -1 ∧ (∀ k, i ≤ k → k < K → ln k ≠ x) ∧ ∀ r, FX10_findsLabels_b2 fuel' (nI y1) r (nI i) f rla rlb asked = r) ∨ ∃ j k : Nat, j ≤ 100 ∧ i ≤ k ∧ k < K ∧ ln k = x ∧ FX4_placeOf_b1 fuel x (nI i) prg ln la = nI j ∧ ∀ r, FX10_findsLabels_b2 fuel' (nI y1) r (nI i) f rla rlb asked = nI j)
  | _, _, 0, _, _, h, _ => absurd h (Nat.not_lt_zero _)
  | _, _, _ + 1, 0, _, _, h => absurd h (Nat.not_lt_zero _)
  | 0, i, fuel + 1, fuel' + 1, hm, _, _ => by
    have c : prg 4 ≤ nI i := by rw [h4]; exact nI_le (by omega) (by omega)
    have c2 : f 28 ≤ nI i := by rw [h28]; exact nI_le (by omega) (by omega)
    rw [OX4_placeOf_b1, FX4_placeOf_b1, if_pos c]
    refine ⟨⟨fun _ => trivial, fun z => absurd c z⟩, fun r => ?_, Or.inl ⟨rfl, fun k h1 h2 => by omega, fun r => ?_⟩⟩
    · rw [OX10_findsLabels_b2]
      exact ⟨fun _ => trivial, fun z => absurd c2 z⟩
    · rw [FX10_findsLabels_b2, if_pos c2]
  | m + 1, i, fuel + 1, fuel' + 1, hm, _, _ => by
    have c : ¬ prg 4 ≤ nI i := by rw [h4]; exact nI_ge (by omega) (by omega)
    have c2 : ¬ f 28 ≤ nI i := by rw [h28]; exact nI_ge (by omega) (by omega)
    have ci : (nI i).toNatClampNeg = i := nI_clamp (by omega)
    have cy : (nI y1).toNatClampNeg = y1 := nI_clamp (by omega)
    have vi : vp_in (nI i) 101 := vp_in_nI (by omega) (by decide)
    have vy : vp_in (nI y1) 112 := vp_in_nI h1 (by decide)
    obtain ⟨i1, i2, i3⟩ := l_fs (y1 := y1) hl hw ey h1 h4 h28 hK m (i + 1) fuel fuel' (by omega) (by omega) (by omega)
    obtain ⟨w1, w2, j, w3, w4⟩ := hl.1 i (by omega)
    have wc := WD_c w1 hw
    rw [OX4_placeOf_b1, FX4_placeOf_b1, if_neg c, ci, nI_1]
    by_cases q : ln i = x
    · have q' : lg_cmp (rlb i) (asked y1) = 0 := by rw [ey]; exact wc.mp q
      rw [if_pos q]
      have hn : ∀ r, FX10_findsLabels_b2 fuel' (nI y1) r (nI (i + 1)) f rla rlb asked = r := by
        rcases i3 with ⟨-, -, a3⟩ | ⟨j', k, -, k1, k2, k3, -, -⟩
        · exact a3
        · exact absurd (k3.trans q.symm) (hl.2 k i (by omega) (by omega) (by omega))
      refine ⟨⟨fun z => absurd z c, fun _ => ⟨vi, fun _ => vi, fun z => absurd q z⟩⟩, fun r => ?_, Or.inr ⟨j, i, w3, Nat.le_refl _, by omega, q, w4, fun r => ?_⟩⟩
      · rw [OX10_findsLabels_b2, ci, cy, nI_1]
        exact ⟨fun z => absurd z c2, fun _ => ⟨vi, vy, fun _ => ⟨vi, i2 _⟩, fun z => absurd q' z⟩⟩
      · rw [FX10_findsLabels_b2, if_neg c2, ci, cy, nI_1, if_pos q', hn, w2, w4]
    · have q' : ¬ lg_cmp (rlb i) (asked y1) = 0 := by rw [ey]; exact fun z => q (wc.mpr z)
      rw [if_neg q]
      refine ⟨⟨fun z => absurd z c, fun _ => ⟨vi, fun z => absurd z q, fun _ => i1⟩⟩, fun r => ?_, ?_⟩
      · rw [OX10_findsLabels_b2, ci, cy, nI_1]
        exact ⟨fun z => absurd z c2, fun _ => ⟨vi, vy, fun z => absurd z q', fun _ => i2 _⟩⟩
      · rcases i3 with ⟨a1, a2, a3⟩ | ⟨j', k, a0, a1, a2, a3, a4, a5⟩
        · refine Or.inl ⟨a1, fun k x1 x2 => ?_, fun r => ?_⟩
          · by_cases e : k = i
            · rw [e]; exact q
            · exact a2 k (by omega) x2
          · rw [FX10_findsLabels_b2, if_neg c2, ci, cy, nI_1, if_neg q']
            exact a3 r
        · refine Or.inr ⟨j', k, a0, by omega, a2, a3, a4, fun r => ?_⟩
          rw [FX10_findsLabels_b2, if_neg c2, ci, cy, nI_1, if_neg q']
          exact a5 r
/-- what is found so far: the first i uses -/
def FU (i L N : Nat) (op num rnum us ra rruns rm rw_ rp : mF) : Prop := (∀ k, k < L → rnum k = num k ∧ ((op k = 7 ∨ op k = 8) → ¬ num k < 0)) ∧ (∀ k, k < N → rruns (4 * k) = rm k ∧ rruns (4 * k + 1) = rw_ k ∧ rruns (4 * k + 2) = rp k) ∧ ∀ k, k < N → (∃ u, u < i ∧ us u = nI (100 + k)) → rruns (4 * k + 3) = ra k ∧ ∃ j : Nat, j ≤ 100 ∧ ra k = nI j
theorem l_uses (hl : LB K 100 ln la rla rlb) (h4 : prg 4 = nI K) (h28 : f 28 = nI K) (hK : K ≤ 100) (h10 : R 10 = nI U) (h32 : f 32 = nI U) (h9 : R 9 = -1) (hL : L ≤ 100) (hN : N ≤ 12) (hU : U ≤ 112) (hu : US U L N un up us asked asP asB) : ∀ (m i fuel fuel' : Nat) (num rnum ra rruns : mF), i + m = U → m < fuel → m < fuel' → FU i L N op num rnum us ra rruns rm rw_ rp → OX5_findUses_b1 fuel (nI i) R un up us prg num ln la ra ∧ OX10_findsLabels_b1 fuel' (nI i) f rnum rla rruns rlb asked asP asB ∧ ((∃ num' rnum' ra' rruns' : mF, FX5_findUses_b1 fuel (nI i) R un up us prg num ln la ra = (R, num', ra') ∧ FX10_findsLabels_b1 fuel' (nI i) f rnum rla rruns rlb asked asP asB = (1, f, rnum', rruns') ∧ FU U L N op num' rnum' us ra' rruns' rm rw_ rp) ∨ ∃ (f' : mF) (rest : mF × mF), FX10_findsLabels_b1 fuel' (nI i) f rnum rla rruns rlb asked asP asB = (0, f', rest) ∧ RF (FX5_findUses_b1 fuel (nI i) R un up us prg num ln la ra).1 f' ∧ AX f f')
  | _, _, 0, _, _, _, _, _, _, h, _, _ => absurd h (Nat.not_lt_zero _)
  | _, _, _ + 1, 0, _, _, _, _, _, _, h, _ => absurd h (Nat.not_lt_zero _)
  | 0, i, fuel + 1, fuel' + 1, num, rnum, ra, rruns, hm, _, _, hf => by
    have c : R 10 ≤ nI i := by rw [h10]; exact nI_le (by omega) (by omega)
    have c2 : f 32 ≤ nI i := by rw [h32]; exact nI_le (by omega) (by omega)
    rw [OX5_findUses_b1, OX10_findsLabels_b1, FX5_findUses_b1, FX10_findsLabels_b1, if_pos c, if_pos c2]
    refine ⟨⟨fun _ => trivial, fun z => absurd c z⟩, ⟨fun _ => trivial, fun z => absurd c2 z⟩, Or.inl ⟨num, rnum, ra, rruns, rfl, rfl, ?_⟩⟩
    rw [show U = i by omega]
    exact hf
  | m + 1, i, fuel + 1, fuel' + 1, num, rnum, ra, rruns, hm, hm1, hm2, hf => by
    have c : ¬ R 10 ≤ nI i := by rw [h10]; exact nI_ge (by omega) (by omega)
    have c2 : ¬ f 32 ≤ nI i := by rw [h32]; exact nI_ge (by omega) (by omega)
    have ci : (nI i).toNatClampNeg = i := nI_clamp (by omega)
    have vi : vp_in (nI i) 112 := vp_in_nI (by omega) (by decide)
    obtain ⟨u1, u2, ⟨p, p1, p2⟩, u4, mm, u5, u6⟩ := hu.1 i (by omega)
    obtain ⟨a1, a2, a3⟩ := l_fs (y1 := i) (f := f) hl u1 rfl (by omega) h4 h28 (by omega) K 0 10000 10000 (by omega) (by omega) (by omega)
    rw [nI_0] at a1 a2 a3
    have op1 : OX4_placeOf (un i) prg ln la := by
      unfold OX4_placeOf
      exact a1
    have oa := a2 (-1)
    rcases a3 with ⟨b1, -, b3⟩ | ⟨j, k, b0, -, -, -, b4, b5⟩
    · have ep : FX4_placeOf (un i) prg ln la = -1 := by
        unfold FX4_placeOf
        exact b1
      have eb := b3 (-1)
      have rf : RF (upd R 9 (8 * up i + nI 5)) (upd (upd f 10 (nI 5)) 11 (asP i)) := by
        refine ⟨?_, ?_⟩
        · rw [pk_us, u2, p2, show (8 : Int32) * nI p = nI (8 * p) from nI_mul 8 p, nI_add]
          exact nI_nm1 (by omega)
        · rw [pk_us, pk_us, pk_un (by decide), pk_us, u2]
      have n9 : ¬ upd R 9 (8 * up i + 5) 9 = -1 := rf.1
      -- the class goes no further
      have stop : OX5_findUses_b1 fuel (nI (i + 1)) (upd R 9 (8 * up i + 5)) un up us prg num ln la ra ∧ FX5_findUses_b1 fuel (nI (i + 1)) (upd R 9 (8 * up i + 5)) un up us prg num ln la ra = (upd R 9 (8 * up i + 5), num, ra) := by
        obtain ⟨fu, rfl⟩ : ∃ q, fuel = q + 1 := ⟨fuel - 1, by omega⟩
        rw [OX5_findUses_b1, FX5_findUses_b1, if_neg n9]
        refine ⟨⟨fun _ => trivial, fun _ => ⟨fun z => absurd z n9, fun _ => trivial⟩⟩, ?_⟩
        split <;> rfl
      refine ⟨?_, ?_, Or.inr ⟨upd (upd f 10 5) 11 (asP i), (rnum, rruns), ?_, ?_, AX_b⟩⟩
      · rw [OX5_findUses_b1, ci, ep, nI_1, fail_e (x := up i) (k := 5) h9]
        exact ⟨fun z => absurd z c, fun _ => ⟨fun _ => ⟨vi, op1, fun _ => ⟨vi, stop.1⟩, fun z => absurd rfl z⟩, fun z => absurd h9 z⟩⟩
      · rw [OX10_findsLabels_b1, eb]
        exact ⟨fun z => absurd z c2, fun _ => ⟨oa, fun _ => vi, fun z => absurd rfl z⟩⟩
      · rw [FX10_findsLabels_b1]
        refine (if_neg c2).trans ?_
        rw [eb]
        refine (if_pos rfl).trans ?_
        rw [ci]
      · have ej : FX5_findUses_b1 (fuel + 1) (nI i) R un up us prg num ln la ra = (upd R 9 (8 * up i + 5), num, ra) := by
          rw [FX5_findUses_b1]
          refine (if_neg c).trans ((if_pos h9).trans ?_)
          rw [ci, ep]
          refine (if_pos rfl).trans ?_
          rw [nI_1, fail_e (x := up i) (k := 5) h9]
          exact stop.2
        rw [ej]
        exact rf
    · have ep : FX4_placeOf (un i) prg ln la = nI j := by
        unfold FX4_placeOf
        exact b4
      have eb := b5 (-1)
      have nj : ¬ nI j = -1 := nI_nm1 (by omega)
      have u4' : asB i = nI mm := u4.symm.trans u5
      by_cases q : mm < 100
      · have qL : mm < L := by omega
        have d : ¬ (100 : Int32) ≤ nI mm := nI_ge q (by decide)
        have vm : vp_in (nI mm) 100 := vp_in_nI q (by decide)
        have cm : (nI mm).toNatClampNeg = mm := nI_clamp (by omega)
        have hf' : FU (i + 1) L N op (upd num mm (nI j)) (upd rnum mm (nI j)) us ra rruns rm rw_ rp := by
          refine ⟨fun k hk => ?_, hf.2.1, fun k hk hx => hf.2.2 k hk ?_⟩
          · by_cases e : k = mm
            · subst e
              rw [pk_us, pk_us]
              exact ⟨rfl, fun _ => nI_pos (by omega)⟩
            · rw [pk_un e, pk_un e]
              exact hf.1 k hk
          · obtain ⟨u, x1, x2⟩ := hx
            refine ⟨u, ?_, x2⟩
            have : u ≠ i := fun z => by
              rw [z, u5] at x2
              have := (nI_eq (a := mm) (b := 100 + k) (by omega) (by omega)).mp x2
              omega
            omega
        obtain ⟨g1, g2, g3⟩ := l_uses hl h4 h28 hK h10 h32 h9 hL hN hU hu m (i + 1) fuel fuel' (upd num mm (nI j)) (upd rnum mm (nI j)) ra rruns (by omega) (by omega) (by omega) hf'
        have ej : FX5_findUses_b1 (fuel + 1) (nI i) R un up us prg num ln la ra = FX5_findUses_b1 fuel (nI (i + 1)) R un up us prg (upd num mm (nI j)) ln la ra := by
          rw [FX5_findUses_b1]
          refine (if_neg c).trans ((if_pos h9).trans ?_)
          rw [ci, ep, u5]
          refine (if_neg nj).trans ((if_neg d).trans ?_)
          rw [nI_1, cm]
        have er : FX10_findsLabels_b1 (fuel' + 1) (nI i) f rnum rla rruns rlb asked asP asB = FX10_findsLabels_b1 fuel' (nI (i + 1)) f (upd rnum mm (nI j)) rla rruns rlb asked asP asB := by
          rw [FX10_findsLabels_b1]
          refine (if_neg c2).trans ?_
          rw [eb, ci, u4']
          refine (if_neg nj).trans ((if_neg d).trans ?_)
          rw [nI_1, cm]
        rw [ej, er]
        refine ⟨?_, ?_, g3⟩
        · rw [OX5_findUses_b1, ci, ep, u5, nI_1, cm]
          exact ⟨fun z => absurd z c, fun _ => ⟨fun _ => ⟨vi, op1, fun z => absurd z nj, fun _ => ⟨vi, fun z => absurd z d, fun _ => ⟨vi, vm, g1⟩⟩⟩, fun z => absurd h9 z⟩⟩
        · rw [OX10_findsLabels_b1, eb, ci, u4', nI_1, cm]
          exact ⟨fun z => absurd z c2, fun _ => ⟨oa, fun z => absurd z nj, fun _ => ⟨vi, fun z => absurd z d, fun _ => ⟨vi, vm, g2⟩⟩⟩⟩
      · obtain ⟨k, rfl⟩ : ∃ k, mm = 100 + k := ⟨mm - 100, by omega⟩
        have hk : k < N := by omega
        have d : (100 : Int32) ≤ nI (100 + k) := nI_le (show 100 ≤ 100 + k by omega) (by omega)
        have e1 : nI (100 + k) - 100 = nI k := by
          rw [show (100 : Int32) = nI 100 from rfl, nI_sub (by omega)]
          congr 1
          omega
        have e2 : (4 : Int32) * nI k + 3 = nI (4 * k + 3) := by rw [show (4 : Int32) * nI k = nI (4 * k) from nI_mul 4 k]; exact nI_add _ 3
        have vk : vp_in (nI k) 12 := vp_in_nI (by omega) (by decide)
        have vk4 : vp_in (nI (4 * k + 3)) 48 := vp_in_nI (by omega) (by decide)
        have ck : (nI k).toNatClampNeg = k := nI_clamp (by omega)
        have ck4 : (nI (4 * k + 3)).toNatClampNeg = 4 * k + 3 := nI_clamp (by omega)
        have hf' : FU (i + 1) L N op num rnum us (upd ra k (nI j)) (upd rruns (4 * k + 3) (nI j)) rm rw_ rp := by
          refine ⟨hf.1, fun k' hk' => ?_, fun k' hk' hx => ?_⟩
          · rw [pk_un (by omega), pk_un (by omega), pk_un (by omega)]
            exact hf.2.1 k' hk'
          · by_cases e : k' = k
            · subst e
              rw [pk_us, pk_us]
              exact ⟨rfl, j, b0, rfl⟩
            · rw [pk_un e, pk_un (by omega)]
              refine hf.2.2 k' hk' ?_
              obtain ⟨u, x1, x2⟩ := hx
              refine ⟨u, ?_, x2⟩
              have : u ≠ i := fun z => by
                rw [z, u5] at x2
                have := (nI_eq (a := 100 + k) (b := 100 + k') (by omega) (by omega)).mp x2
                omega
              omega
        obtain ⟨g1, g2, g3⟩ := l_uses hl h4 h28 hK h10 h32 h9 hL hN hU hu m (i + 1) fuel fuel' num rnum (upd ra k (nI j)) (upd rruns (4 * k + 3) (nI j)) (by omega) (by omega) (by omega) hf'
        have ej : FX5_findUses_b1 (fuel + 1) (nI i) R un up us prg num ln la ra = FX5_findUses_b1 fuel (nI (i + 1)) R un up us prg num ln la (upd ra k (nI j)) := by
          rw [FX5_findUses_b1]
          refine (if_neg c).trans ((if_pos h9).trans ?_)
          rw [ci, ep, u5]
          refine (if_neg nj).trans ((if_pos d).trans ?_)
          rw [nI_1, e1, ck]
        have er : FX10_findsLabels_b1 (fuel' + 1) (nI i) f rnum rla rruns rlb asked asP asB = FX10_findsLabels_b1 fuel' (nI (i + 1)) f rnum rla (upd rruns (4 * k + 3) (nI j)) rlb asked asP asB := by
          rw [FX10_findsLabels_b1]
          refine (if_neg c2).trans ?_
          rw [eb, ci, u4']
          refine (if_neg nj).trans ((if_pos d).trans ?_)
          rw [nI_1, e1, e2, ck4]
        rw [ej, er]
        refine ⟨?_, ?_, g3⟩
        · rw [OX5_findUses_b1, ci, ep, u5, nI_1, e1, ck]
          exact ⟨fun z => absurd z c, fun _ => ⟨fun _ => ⟨vi, op1, fun z => absurd z nj, fun _ => ⟨vi, fun _ => ⟨vi, vk, g1⟩, fun z => absurd d z⟩⟩, fun z => absurd h9 z⟩⟩
        · rw [OX10_findsLabels_b1, eb, ci, u4', nI_1, e1, e2, ck4]
          exact ⟨fun z => absurd z c2, fun _ => ⟨oa, fun z => absurd z nj, fun _ => ⟨vi, fun _ => ⟨vi, vk4, g2⟩, fun z => absurd d z⟩⟩⟩
end FND
