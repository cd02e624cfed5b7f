/-! PURE: a line that tells a run (GENERATED, wip/gen/p/81.py) -/
section LRN
variable {R f tp tr nm un up us asP asB prg rm rw_ rp ra rruns : mF} {fl named asked : mFl} {S lo U L N : Nat}
/-- the runs told so far -/
def RN (N : Nat) (rm rw_ rp ra rruns : mF) : Prop := ∀ k, k < N → rruns (4 * k) = rm k ∧ rruns (4 * k + 1) = rw_ k ∧ rruns (4 * k + 2) = rp k ∧ ra k = 0 ∧ (∃ m : Nat, m ≤ 1 ∧ rm k = nI m) ∧ (∃ w : Nat, 5 ≤ w ∧ w ≤ 95 ∧ rw_ k = nI w) ∧ ∃ p : Nat, p ≤ 1 ∧ rp k = nI p
/-- the uses of LABELS so far -/
def US (U L N : Nat) (un up us : mF) (asked : mFl) (asP asB : mF) : Prop := (∀ u, u < U → WD (un u) (asked u) ∧ up u = asP u ∧ (∃ p : Nat, p ≤ 700 ∧ asP u = nI p) ∧ us u = asB u ∧ ∃ m : Nat, us u = nI m ∧ (m < L ∨ (100 ≤ m ∧ m < 100 + N))) ∧ ∀ k, k < N → ∃ u, u < U ∧ us u = nI (100 + k)
theorem US_s {m p L' N' : Nat} {x pl pl' : Int32} {y : Int64} (h : US U L N un up us asked asP asB) (hw : WD x y) (hp : pl = pl') (hp2 : pl' = nI p) (hp3 : p ≤ 700) (hL : L ≤ L') (hN : N ≤ N') (hm : m < L' ∨ (100 ≤ m ∧ m < 100 + N')) (hc : ∀ k, k < N' → k < N ∨ m = 100 + k) : US (U + 1) L' N' (upd un U x) (upd up U pl) (upd us U (nI m)) (vp_updL asked U y) (upd asP U pl') (upd asB U (nI m)) := by
  refine ⟨fun u hu => ?_, fun k hk => ?_⟩
  · by_cases e : u = U
    · subst e
      rw [pk_us, pk_us, pk_us, pk_us, pk_us, pk_uLs]
      exact ⟨hw, hp, ⟨p, hp3, hp2⟩, rfl, m, rfl, hm⟩
    · rw [pk_un e, pk_un e, pk_un e, pk_un e, pk_un e, pk_uLn e]
      obtain ⟨a, b, c, d, j, j1, j2⟩ := h.1 u (by omega)
      exact ⟨a, b, c, d, j, j1, by omega⟩
  · rcases hc k hk with q | q
    · obtain ⟨u, u1, u2⟩ := h.2 k q
      exact ⟨u, by omega, (pk_un (by omega)).trans u2⟩
    · exact ⟨U, by omega, pk_us.trans (by rw [q])⟩
theorem RN_s {m w p : Nat} {x y z : Int32} (h : RN N rm rw_ rp ra rruns) (hx : x = nI m) (hy : y = nI w) (hz : z = nI p) (hm : m ≤ 1) (hw : 5 ≤ w ∧ w ≤ 95) (hp : p ≤ 1) : RN (N + 1) (upd rm N x) (upd rw_ N y) (upd rp N z) (upd ra N 0) (upd (upd (upd rruns (4 * N) x) (4 * N + 1) y) (4 * N + 2) z) := by
  intro k hk
  by_cases e : k = N
  · subst e
    exact ⟨((pk_un (by omega)).trans ((pk_un (by omega)).trans pk_us)).trans pk_us.symm, ((pk_un (by omega)).trans pk_us).trans pk_us.symm, pk_us.trans pk_us.symm, pk_us, ⟨m, hm, pk_us.trans hx⟩, ⟨w, hw.1, hw.2, pk_us.trans hy⟩, p, hp, pk_us.trans hz⟩
  · obtain ⟨a, b, c, d, ⟨m', d1, d2⟩, ⟨w', d3, d4, d5⟩, p', d6, d7⟩ := h k (by omega)
    have u3 : ∀ j, j < 4 * N → upd (upd (upd rruns (4 * N) x) (4 * N + 1) y) (4 * N + 2) z j = rruns j := fun j hj => (pk_un (by omega)).trans ((pk_un (by omega)).trans (pk_un (by omega)))
    exact ⟨(u3 _ (by omega)).trans (a.trans (pk_un e).symm), (u3 _ (by omega)).trans (b.trans (pk_un e).symm), (u3 _ (by omega)).trans (c.trans (pk_un e).symm), (pk_un e).trans d, ⟨m', d1, (pk_un e).trans d2⟩, ⟨w', d3, d4, (pk_un e).trans d5⟩, p', d6, (pk_un e).trans d7⟩
theorem o_addr {x1 x2 x3 : Int32} (h12 : prg 12 = nI N) (hN : N ≤ 12) : OX4_addRun x1 x2 x3 prg rm rw_ rp ra := by
  unfold OX4_addRun
  rw [h12]
  refine ⟨fun _ => trivial, fun z => ?_⟩
  have : N ≤ 11 := by
    rcases Nat.lt_or_ge 11 N with q | q
    · exact absurd (nI_le (show 12 ≤ N by omega) (by omega)) z
    · exact q
  have vi : vp_in (nI N) 12 := vp_in_nI (by omega) (by decide)
  exact ⟨vi, vi, vi, vi⟩
theorem f_addr {x1 x2 x3 : Int32} (h12 : prg 12 = nI N) (hN : N ≤ 11) : FX4_addRun x1 x2 x3 prg rm rw_ rp ra = (0, upd prg 12 (nI (N + 1)), upd rm N x1, upd rw_ N x2, upd rp N x3, upd ra N 0) := by
  have c : ¬ (12 : Int32) ≤ nI N := nI_ge (show N < 12 by omega) (by decide)
  unfold FX4_addRun
  rw [h12, if_neg c, nI_clamp (by omega), nI_1]
theorem p_run (hN : NMS nm named) (hT : TP tp tr) (hS : S ≤ 700) (h : TK S lo R f fl) (h9 : R 9 = -1) (hk : R 5 = 2) (h10 : R 10 = nI U) (h32 : f 32 = nI U) (hU : N < 12 → U < 112) (h12 : prg 12 = nI N) (h29 : f 29 = nI N) (hN2 : N ≤ 12) (hr : RN N rm rw_ rp ra rruns) (hu : US U L N un up us asked asP asB) : OX5_readRun tp R nm un up us prg rm rw_ rp ra ∧ OX10_readsRun f fl named tr rruns asked asP asB ∧ ((∃ (R' un' up' us' rm' rw' rp' ra' f' rruns' asP' asB' : mF) (fl' asked' : mFl), FX5_readRun tp R nm un up us prg rm rw_ rp ra = (0, R', un', up', us', upd prg 12 (nI (N + 1)), rm', rw', rp', ra') ∧ FX10_readsRun f fl named tr rruns asked asP asB = (1, f', fl', rruns', asked', asP', asB') ∧ TK S lo R' f' fl' ∧ AR (upd R 10 (nI (U + 1))) R' ∧ AN (upd (upd f 32 (nI (U + 1))) 29 (nI (N + 1))) f' ∧ N ≤ 11 ∧ RN (N + 1) rm' rw' rp' ra' rruns' ∧ US (U + 1) L (N + 1) un' up' us' asked' asP' asB') ∨ ∃ (f' : mF) (rest : mFl × mF × mFl × mF × mF), FX10_readsRun f fl named tr rruns asked asP asB = (0, f', rest) ∧ RF (FX5_readRun tp R nm un up us prg rm rw_ rp ra).2.1 f' ∧ AX f f') := by
  have z10 : ¬ (1 : Int32) = 0 := by decide
  obtain ⟨-, -, ⟨hp, p, p1, p2⟩, -⟩ := id h
  have hf : f 8 = 2 := by
    rcases TK_2 h with ⟨-, a, -⟩ | ⟨a, -⟩
    · exact a
    · exact absurd hk a
  rcases Nat.lt_or_ge N 12 with hl | hl
  · have c1 : prg 12 < 12 := by rw [h12]; exact nI_lt hl (by decide)
    have c2 : ¬ f 29 = 12 := by
      rw [h29]
      intro z
      have := (nI_eq (a := N) (b := 12) (by omega) (by decide)).mp z
      omega
    obtain ⟨s1, s2, R1, f1, fl1, s3, s4, s5, s6, s7⟩ := p_next (Rm := R) (fm := f) hT hS h hk rfl rfl rfl rfl
    have r1 := AR_9 s6 h9
    have w29 : f1 29 = nI N := (s7 29 (by decide) (by decide) (by decide) (by decide)).trans h29
    have x0 : (4 : Int32) * f1 29 = nI (4 * N) := by rw [w29]; exact nI_mul 4 N
    have x1 : (4 : Int32) * f1 29 + 1 = nI (4 * N + 1) := by rw [x0, nI_1]
    have x2 : (4 : Int32) * f1 29 + 2 = nI (4 * N + 2) := by rw [x0]; exact nI_add _ 2
    have y0 : vp_in ((4 : Int32) * f1 29) 48 := by rw [x0]; exact vp_in_nI (by omega) (by decide)
    have y1 : vp_in ((4 : Int32) * f1 29 + 1) 48 := by rw [x1]; exact vp_in_nI (by omega) (by decide)
    have y2 : vp_in ((4 : Int32) * f1 29 + 2) 48 := by rw [x2]; exact vp_in_nI (by omega) (by decide)
    obtain ⟨n1, n2, n3⟩ := p_number 0 1 hT hS s5 r1
    rcases n3 with ⟨v, R2, f2, fl2, a1, a2, a3, a4, a5, a6, a7, a8, -⟩ | ⟨R2, f2, a1, a2, a3, a4⟩
    · obtain ⟨m, -, hm, rfl⟩ := rng (a := 0) (b := 1) a7 a8 (by decide) (by decide)
      have r2 := AR_9 a4 r1
      obtain ⟨m1, m2, m3⟩ := p_number 5 95 hT hS a3 r2
      rcases m3 with ⟨v, R3, f3, fl3, b1, b2, b3, b4, b5, b6, b7, b8, -⟩ | ⟨R3, f3, b1, b2, b3, b4⟩
      · obtain ⟨wv, hw1, hw2, rfl⟩ := rng (a := 5) (b := 95) b7 b8 (by decide) (by decide)
        have r3 := AR_9 b4 r2
        obtain ⟨l1, l2, l3⟩ := p_number 0 1 hT hS b3 r3
        rcases l3 with ⟨v, R4, f4, fl4, c3, c4, c5, c6, c7, c8, c9, c10, -⟩ | ⟨R4, f4, c3, c4, c5, c6⟩
        · obtain ⟨pv, -, hpv, rfl⟩ := rng (a := 0) (b := 1) c9 c10 (by decide) (by decide)
          have r4 := AR_9 c6 r3
          have g10 : R4 10 = nI U := (AR_t s6 (AR_t a4 (AR_t b4 c6)) 10 (by decide) (by decide) (by decide) (by decide)).trans h10
          have gAN : AN f f4 := AN_t (AN_F s7) (AN_t a5 (AN_t b5 c7))
          have g32 : f4 32 = nI U := (gAN 32 (by decide) (by decide) (by decide) (by decide) (by decide)).trans h32
          have g29 : f4 29 = nI N := (gAN 29 (by decide) (by decide) (by decide) (by decide) (by decide)).trans h29
          have who : (100 : Int32) + prg 12 = nI (100 + N) := by rw [h12]; exact nI_add 100 N
          have who' : (100 : Int32) + f4 29 = nI (100 + N) := by rw [g29]; exact nI_add 100 N
          obtain ⟨u1, u2, u3⟩ := p_use (un := un) (up := up) (us := us) (asked := asked) (asP := asP) (asB := asB) (nI (100 + N)) hN hT hS c5 r4 g10 g32 (hU hl)
          have oj : OX5_readRun tp R nm un up us prg rm rw_ rp ra := by
            unfold OX5_readRun
            rw [s3]
            dsimp only
            rw [a1]
            dsimp only
            rw [b1]
            dsimp only
            rw [c3, who]
            exact ⟨fun _ => ⟨s1, n1, m1, l1, u1, o_addr h12 hN2⟩, fun z => absurd c1 z⟩
          have eo : OX10_readsRun f fl named tr rruns asked asP asB := by
            unfold OX10_readsRun
            rw [s4]
            dsimp only
            rw [a2]
            dsimp only
            rw [b2]
            dsimp only
            rw [c4]
            dsimp only
            rw [who']
            exact ⟨fun z => absurd z c2, fun _ => ⟨s2, n2, fun z => absurd z z10, fun _ => ⟨y0, m2, fun z => absurd z z10, fun _ => ⟨y1, l2, fun z => absurd z z10, fun _ => ⟨y2, u2⟩⟩⟩⟩⟩
          rcases u3 with ⟨R5, f5, fl5, d1, d2, d3, d4, d5, d6, d7, q, d8, d9⟩ | ⟨R5, f5, d1, d2, d3, d4⟩
          · have d2' : FX10_readsLabel (100 + f4 29) f4 fl4 named tr asked asP asB = (1, f5, fl5, vp_updL asked U (fl4 12), upd asP U (f4 7), upd asB U (nI (100 + N))) := by rw [who']; exact d2
            have k29 : f5 29 = nI N := (d5 29 (by decide) (by decide) (by decide) (by decide)).trans ((pk_un (by decide)).trans g29)
            have ej : FX5_readRun tp R nm un up us prg rm rw_ rp ra = (0, R5, upd un U (R4 8), upd up U (R4 6), upd us U (nI (100 + N)), upd prg 12 (nI (N + 1)), upd rm N (nI m), upd rw_ N (nI wv), upd rp N (nI pv), upd ra N 0) := by
              unfold FX5_readRun
              refine (if_pos c1).trans ?_
              rw [s3]
              dsimp only
              rw [a1]
              dsimp only
              rw [b1]
              dsimp only
              rw [c3, who]
              dsimp only
              rw [d1, f_addr h12 (by omega)]
            have er : FX10_readsRun f fl named tr rruns asked asP asB = (1, upd f5 29 (nI (N + 1)), fl5, upd (upd (upd rruns (4 * N) (nI m)) (4 * N + 1) (nI wv)) (4 * N + 2) (nI pv), vp_updL asked U (fl4 12), upd asP U (f4 7), upd asB U (nI (100 + N))) := by
              unfold FX10_readsRun
              refine (if_neg c2).trans ?_
              rw [s4]
              dsimp only
              rw [a2]
              refine (if_neg z10).trans ?_
              rw [b2]
              refine (if_neg z10).trans ?_
              rw [c4]
              refine (if_neg z10).trans ?_
              rw [d2']
              refine (if_neg z10).trans ?_
              dsimp only
              rw [x2, x1, x0, k29, a6, b6, c8, nI_1, nI_clamp (by omega), nI_clamp (by omega), nI_clamp (by omega)]
            refine ⟨oj, eo, Or.inl ⟨R5, _, _, _, _, _, _, _, _, _, _, _, fl5, _, ej, er, ?_, ?_, ?_, by omega, RN_s hr rfl rfl rfl hm ⟨hw1, hw2⟩ hpv, US_s hu d6 d7 d9 (by omega) (Nat.le_refl _) (by omega) (Or.inr ⟨by omega, by omega⟩) (fun k hk => by omega)⟩⟩
            · obtain ⟨t1, t2, ⟨t3, t4⟩, t5⟩ := d3
              refine ⟨t1, (pk_un (by decide)).trans t2, ⟨?_, ?_⟩, ?_⟩
              · rw [pk_un (by decide)]; exact t3
              · rw [pk_un (by decide)]; exact t4
              · rw [pk_un (by decide), pk_un (by decide), pk_un (by decide)]; exact t5
            · intro k i1 i2 i3 i4
              by_cases e : k = 10
              · subst e
                exact (d4 10 i1 i2 i3 i4).trans (pk_us.trans pk_us.symm)
              · exact (d4 k i1 i2 i3 i4).trans ((pk_un e).trans ((AR_t s6 (AR_t a4 (AR_t b4 c6)) k i1 i2 i3 i4).trans (pk_un e).symm))
            · intro k i1 i2 i3 i4 i5
              by_cases e : k = 29
              · subst e
                exact pk_us.trans pk_us.symm
              · refine (pk_un e).trans ((d5 k i1 i2 i3 i4).trans (Eq.trans ?_ (pk_un e).symm))
                by_cases e2 : k = 32
                · subst e2
                  exact pk_us.trans pk_us.symm
                · exact (pk_un e2).trans ((gAN k i1 i2 i3 i4 i5).trans (pk_un e2).symm)
          · have d2' : FX10_readsLabel (100 + f4 29) f4 fl4 named tr asked asP asB = (0, f5, fl4, asked, asP, asB) := by rw [who']; exact d2
            have ej : (FX5_readRun tp R nm un up us prg rm rw_ rp ra).2.1 = R5 := by
              unfold FX5_readRun
              rw [if_pos c1, s3]
              dsimp only
              rw [a1]
              dsimp only
              rw [b1]
              dsimp only
              rw [c3, who]
              dsimp only
              rw [d1]
            refine ⟨oj, eo, Or.inr ⟨f5, ?_, ?_, by rw [ej]; exact d3, AX_t (AX_N gAN) d4⟩⟩
            rotate_left
            unfold FX10_readsRun
            refine (if_neg c2).trans ?_
            rw [s4]
            dsimp only
            rw [a2]
            refine (if_neg z10).trans ?_
            rw [b2]
            refine (if_neg z10).trans ?_
            rw [c4]
            refine (if_neg z10).trans ?_
            rw [d2']
            exact if_pos rfl
        · obtain ⟨t1, t2⟩ := ft_use (R := R4) (tp := tp) (nm := nm) (un := un) (up := up) (us := us) (100 + prg 12) c5.1
          have oj : OX5_readRun tp R nm un up us prg rm rw_ rp ra := by
            unfold OX5_readRun
            rw [s3]
            dsimp only
            rw [a1]
            dsimp only
            rw [b1]
            dsimp only
            rw [c3]
            exact ⟨fun _ => ⟨s1, n1, m1, l1, t1, o_addr h12 hN2⟩, fun z => absurd c1 z⟩
          have eo : OX10_readsRun f fl named tr rruns asked asP asB := by
            unfold OX10_readsRun
            rw [s4]
            dsimp only
            rw [a2]
            dsimp only
            rw [b2]
            dsimp only
            rw [c4]
            exact ⟨fun z => absurd z c2, fun _ => ⟨s2, n2, fun z => absurd z z10, fun _ => ⟨y0, m2, fun z => absurd z z10, fun _ => ⟨y1, l2, fun _ => trivial, fun z => absurd rfl z⟩⟩⟩⟩
          have ej : (FX5_readRun tp R nm un up us prg rm rw_ rp ra).2.1 = R4 := by
            unfold FX5_readRun
            rw [if_pos c1, s3]
            dsimp only
            rw [a1]
            dsimp only
            rw [b1]
            dsimp only
            rw [c3]
            dsimp only
            rw [t2]
          refine ⟨oj, eo, Or.inr ⟨f4, ?_, ?_, by rw [ej]; exact c5, AX_t (AX_F s7) (AX_t (AX_N a5) (AX_t (AX_N b5) c6))⟩⟩
          rotate_left
          unfold FX10_readsRun
          refine (if_neg c2).trans ?_
          rw [s4]
          dsimp only
          rw [a2]
          refine (if_neg z10).trans ?_
          rw [b2]
          refine (if_neg z10).trans ?_
          rw [c4]
          exact if_pos rfl
      · obtain ⟨t1, t2⟩ := ft_use (R := R3) (tp := tp) (nm := nm) (un := un) (up := up) (us := us) (100 + prg 12) b3.1
        obtain ⟨t3, t4⟩ := ft_number (R := R3) (tp := tp) 0 1 b3.1
        have oj : OX5_readRun tp R nm un up us prg rm rw_ rp ra := by
          unfold OX5_readRun
          rw [s3]
          dsimp only
          rw [a1]
          dsimp only
          rw [b1]
          dsimp only
          rw [t4]
          exact ⟨fun _ => ⟨s1, n1, m1, t3, t1, o_addr h12 hN2⟩, fun z => absurd c1 z⟩
        have eo : OX10_readsRun f fl named tr rruns asked asP asB := by
          unfold OX10_readsRun
          rw [s4]
          dsimp only
          rw [a2]
          dsimp only
          rw [b2]
          exact ⟨fun z => absurd z c2, fun _ => ⟨s2, n2, fun z => absurd z z10, fun _ => ⟨y0, m2, fun _ => trivial, fun z => absurd rfl z⟩⟩⟩
        have ej : (FX5_readRun tp R nm un up us prg rm rw_ rp ra).2.1 = R3 := by
          unfold FX5_readRun
          rw [if_pos c1, s3]
          dsimp only
          rw [a1]
          dsimp only
          rw [b1]
          dsimp only
          rw [t4]
          dsimp only
          rw [t2]
        refine ⟨oj, eo, Or.inr ⟨f3, ?_, ?_, by rw [ej]; exact b3, AX_t (AX_F s7) (AX_t (AX_N a5) b4)⟩⟩
        rotate_left
        unfold FX10_readsRun
        refine (if_neg c2).trans ?_
        rw [s4]
        dsimp only
        rw [a2]
        refine (if_neg z10).trans ?_
        rw [b2]
        exact if_pos rfl
    · obtain ⟨t1, t2⟩ := ft_use (R := R2) (tp := tp) (nm := nm) (un := un) (up := up) (us := us) (100 + prg 12) a3.1
      obtain ⟨t3, t4⟩ := ft_number (R := R2) (tp := tp) 0 1 a3.1
      obtain ⟨t5, t6⟩ := ft_number (R := R2) (tp := tp) 5 95 a3.1
      have oj : OX5_readRun tp R nm un up us prg rm rw_ rp ra := by
        unfold OX5_readRun
        rw [s3]
        dsimp only
        rw [a1]
        dsimp only
        rw [t6]
        dsimp only
        rw [t4]
        exact ⟨fun _ => ⟨s1, n1, t5, t3, t1, o_addr h12 hN2⟩, fun z => absurd c1 z⟩
      have eo : OX10_readsRun f fl named tr rruns asked asP asB := by
        unfold OX10_readsRun
        rw [s4]
        dsimp only
        rw [a2]
        exact ⟨fun z => absurd z c2, fun _ => ⟨s2, n2, fun _ => trivial, fun z => absurd rfl z⟩⟩
      have ej : (FX5_readRun tp R nm un up us prg rm rw_ rp ra).2.1 = R2 := by
        unfold FX5_readRun
        rw [if_pos c1, s3]
        dsimp only
        rw [a1]
        dsimp only
        rw [t6]
        dsimp only
        rw [t4]
        dsimp only
        rw [t2]
      refine ⟨oj, eo, Or.inr ⟨f2, ?_, ?_, by rw [ej]; exact a3, AX_t (AX_F s7) a4⟩⟩
      rotate_left
      unfold FX10_readsRun
      refine (if_neg c2).trans ?_
      rw [s4]
      dsimp only
      rw [a2]
      exact if_pos rfl
  · have e12 : N = 12 := by omega
    have c1 : ¬ prg 12 < 12 := by rw [h12, e12]; decide
    have c2 : f 29 = 12 := by rw [h29, e12]; rfl
    have rf := RF_k (R := R) (k := 4) hp p2 (by omega) (by decide)
    refine ⟨?_, ?_, Or.inr ⟨upd (upd f 10 4) 11 (f 7), (fl, rruns, asked, asP, asB), ?_, ?_, AX_b⟩⟩
    · unfold OX5_readRun
      exact ⟨fun z => absurd z c1, fun _ => trivial⟩
    · unfold OX10_readsRun
      exact ⟨fun _ => bad_z, fun z => absurd c2 z⟩
    · unfold FX10_readsRun
      refine (if_pos c2).trans ?_
      rw [bad_e (k := 4) (by rw [hf]; decide)]
    · unfold FX5_readRun
      rw [if_neg c1, fail_e h9]
      exact rf
end LRN
