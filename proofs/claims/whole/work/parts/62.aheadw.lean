/-! PURE: what will be: ahead, on both sides (GENERATED, wip/gen/p/62.py) -/
theorem inC {C : Nat} (hC : C < 2 ^ 31) (x : Int32) : (∃ M : Nat, M ≤ C ∧ x = nI M ∧ ¬ x < 0 ∧ ¬ nI C < x ∧ FX10_isIn x 0 (nI C) = 1) ∨ (FX10_isIn x 0 (nI C) = 0 ∧ (x < 0 ∨ (¬ x < 0 ∧ nI C < x))) := by
  by_cases h : x < 0
  · exact Or.inr ⟨if_pos h, Or.inl h⟩
  · obtain ⟨k, hk, rfl⟩ := nI_of h
    rcases Nat.lt_or_ge C k with q | q
    · have h2 : nI C < nI k := nI_lt q hk
      exact Or.inr ⟨(if_neg h).trans (if_pos h2), Or.inr ⟨h, h2⟩⟩
    · have h2 : ¬ nI C < nI k := nI_nlt q hC
      exact Or.inl ⟨k, q, rfl, h, h2, (if_neg h).trans (if_neg h2)⟩
section AHW
variable {W X : Nat → mF} {prg op num sndr slnk rcvr rlnk f fop farg joins n a as d : mF} {J T : Nat}
/-- the model's side, once the bounds are kept -/
theorem a10 {M : Nat} {y z3 z4 : Int32} {U : Nat → mF} {f0 : mF} (hM : M ≤ 300) (hU : WI J joins U n T) (hT : T + 1800 < 2 ^ 30) (hC : PC J prg op num sndr slnk rcvr rlnk f0 fop farg joins) (has : ∀ k, k < 532 → as k = n k) : OX10_ahead_b6 (nI M) y z3 z4 f0 fop farg joins n a as d ∧ ∃ f' n' a' d', FX10_ahead_b6 (nI M) y z3 z4 f0 fop farg joins n a as d = ((if y = 0 then seq prg op num sndr slnk rcvr rlnk M U 1 1 - n 350 else if y = 1 then hB (seq prg op num sndr slnk rcvr rlnk M U) else if y = 2 then (if z3 = -2 then frs prg op num sndr slnk rcvr rlnk (sK prg sndr slnk rcvr rlnk) M 1 U else z3) else (if z4 = -2 then frs prg op num sndr slnk rcvr rlnk hB M 1 U else z4)), f', n', a', as, d') ∧ FE f0 f' ∧ ∀ k, k < 532 → n' k = n k := by
  obtain ⟨l1, f', n1, a', d', l2, l3, l4⟩ := l_ahead10 (y2 := y) (N := nI M) rfl hM M 1 10000 U n f0 a d T z3 z4 (by omega) (by omega) hU (by omega) hC
  obtain ⟨b1, n2, b2, b3⟩ := p_cback (n := n1) (as := as)
  have l1 : OX10_ahead_b7 10000 (nI M) y z3 z4 1 f0 fop farg joins n a d := l1
  have l2 : FX10_ahead_b7 10000 (nI M) y z3 z4 1 f0 fop farg joins n a d = _ := l2
  have e350 : n1 350 = seq prg op num sndr slnk rcvr rlnk M U 1 1 := l4.2.1.2.1
  have hh : FX10_halted n1 = hB (seq prg op num sndr slnk rcvr rlnk M U) := (q_halted (l4.1 0 (by decide)) (l4.1 1 (by decide))).symm
  have hn : ∀ k, k < 532 → n2 k = n k := fun k hk => (b3 k hk).trans (has k hk)
  refine ⟨⟨l1, ?_⟩, f', n2, a', d', ?_, l3, hn⟩
  · rw [l2]
    exact ⟨fun _ => b1, fun _ => ⟨fun _ => b1, fun _ => ⟨fun _ => b1, fun _ => b1⟩⟩⟩
  · unfold FX10_ahead_b6
    rw [l2]
    dsimp only
    rw [b2, e350, hh, has 350 (by decide)]
    by_cases c0 : y = 0
    · rw [if_pos c0, if_pos c0]
    · rw [if_neg c0, if_neg c0]
      by_cases c1 : y = 1
      · rw [if_pos c1, if_pos c1]
      · rw [if_neg c1, if_neg c1]
        by_cases c2 : y = 2
        · rw [if_pos c2, if_pos c2]
        · rw [if_neg c2, if_neg c2]
theorem a10w {M : Nat} {y : Int32} {U : Nat → mF} (hM : M ≤ 300) (hy : FX10_isIn y 0 3 = 1) (hx : FX10_isIn (nI M) 0 300 = 1) (hU : WI J joins U n T) (hT : T + 1800 < 2 ^ 30) (hC : PC J prg op num sndr slnk rcvr rlnk f fop farg joins) : OX10_ahead (nI M) y f fop farg joins n a as d ∧ ∃ f' n' a' as' d', FX10_ahead (nI M) y f fop farg joins n a as d = ((if y = 0 then seq prg op num sndr slnk rcvr rlnk M U 1 1 - n 350 else if y = 1 then hB (seq prg op num sndr slnk rcvr rlnk M U) else if y = 2 then (if sK prg sndr slnk rcvr rlnk U = 0 then frs prg op num sndr slnk rcvr rlnk (sK prg sndr slnk rcvr rlnk) M 1 U else 0) else (if hB U = 0 then frs prg op num sndr slnk rcvr rlnk hB M 1 U else 0)), f', n', a', as', d') ∧ FE f f' ∧ ∀ k, k < 532 → n' k = n k := by
  have z10 : ¬ (1 : Int32) = 0 := by decide
  have z02 : ¬ (0 : Int32) = -2 := by decide
  obtain ⟨s1, as1, s2, s3⟩ := p_aside (n := n) (as := as)
  have hC0 : PC J prg op num sndr slnk rcvr rlnk (upd f 0 0) fop farg joins := PC_f hC (pk_un (by decide)) (pk_un (by decide))
  obtain ⟨-, t1, f1, t2, t3⟩ := p_stuck hU.1 hC0.2
  have t2 : FX10_isStuck (upd f 0 0) joins n = (sK prg sndr slnk rcvr rlnk U, f1) := t2
  have hC1 : PC J prg op num sndr slnk rcvr rlnk f1 fop farg joins := PC_f hC0 (t3 33 (by decide)) (t3 35 (by decide))
  have hE : FE f f1 := fun k x y _ => (t3 k y).trans (pk_un x)
  have hh : FX10_halted n = hB U := (q_halted (hU.1 0 (by decide)) (hU.1 1 (by decide))).symm
  have A := fun z3 z4 : Int32 => a10 (a := a) (as := as1) (d := d) (y := y) (z3 := z3) (z4 := z4) hM hU hT hC1 s3
  obtain ⟨z3, z4, e3, e4, eO, eF⟩ : ∃ z3 z4 : Int32, ((if z3 = -2 then frs prg op num sndr slnk rcvr rlnk (sK prg sndr slnk rcvr rlnk) M 1 U else z3) = if sK prg sndr slnk rcvr rlnk U = 0 then frs prg op num sndr slnk rcvr rlnk (sK prg sndr slnk rcvr rlnk) M 1 U else 0) ∧ ((if z4 = -2 then frs prg op num sndr slnk rcvr rlnk hB M 1 U else z4) = if hB U = 0 then frs prg op num sndr slnk rcvr rlnk hB M 1 U else 0) ∧ (OX10_ahead_b6 (nI M) y z3 z4 f1 fop farg joins n a as1 d → OX10_ahead (nI M) y f fop farg joins n a as d) ∧ FX10_ahead (nI M) y f fop farg joins n a as d = FX10_ahead_b6 (nI M) y z3 z4 f1 fop farg joins n a as1 d := by
    by_cases cs : sK prg sndr slnk rcvr rlnk U = 0
    · rcases hB_v (W := U) with ch | ⟨ch, ch2⟩
      · have hle : hB U ≤ 0 := by rw [ch]; decide
        refine ⟨-2, -2, by rw [if_pos rfl, if_pos cs], by rw [if_pos rfl, if_pos ch], fun h => ?_, ?_⟩
        · unfold OX10_ahead
          rw [hx, hy, s2, t2, hh]
          exact ⟨fun q => absurd q z10, fun _ => ⟨fun q => absurd q z10, fun _ => ⟨s1, t1, fun _ => ⟨fun _ => h, fun q => absurd hle q⟩, fun q => absurd cs q⟩⟩⟩
        · unfold FX10_ahead
          rw [hx, hy, s2, t2, hh]
          dsimp only
          rw [if_neg z10, if_neg z10, if_pos cs, if_pos hle]
      · refine ⟨-2, 0, by rw [if_pos rfl, if_pos cs], by rw [if_neg z02, if_neg ch], fun h => ?_, ?_⟩
        · unfold OX10_ahead
          rw [hx, hy, s2, t2, hh]
          exact ⟨fun q => absurd q z10, fun _ => ⟨fun q => absurd q z10, fun _ => ⟨s1, t1, fun _ => ⟨fun q => absurd q ch2, fun _ => h⟩, fun q => absurd cs q⟩⟩⟩
        · unfold FX10_ahead
          rw [hx, hy, s2, t2, hh]
          dsimp only
          rw [if_neg z10, if_neg z10, if_pos cs, if_neg ch2]
    · rcases hB_v (W := U) with ch | ⟨ch, ch2⟩
      · have hle : hB U ≤ 0 := by rw [ch]; decide
        refine ⟨0, -2, by rw [if_neg z02, if_neg cs], by rw [if_pos rfl, if_pos ch], fun h => ?_, ?_⟩
        · unfold OX10_ahead
          rw [hx, hy, s2, t2, hh]
          exact ⟨fun q => absurd q z10, fun _ => ⟨fun q => absurd q z10, fun _ => ⟨s1, t1, fun q => absurd q cs, fun _ => ⟨fun _ => h, fun q => absurd hle q⟩⟩⟩⟩
        · unfold FX10_ahead
          rw [hx, hy, s2, t2, hh]
          dsimp only
          rw [if_neg z10, if_neg z10, if_neg cs, if_pos hle]
      · refine ⟨0, 0, by rw [if_neg z02, if_neg cs], by rw [if_neg z02, if_neg ch], fun h => ?_, ?_⟩
        · unfold OX10_ahead
          rw [hx, hy, s2, t2, hh]
          exact ⟨fun q => absurd q z10, fun _ => ⟨fun q => absurd q z10, fun _ => ⟨s1, t1, fun q => absurd q cs, fun _ => ⟨fun q => absurd q ch2, fun _ => h⟩⟩⟩⟩
        · unfold FX10_ahead
          rw [hx, hy, s2, t2, hh]
          dsimp only
          rw [if_neg z10, if_neg z10, if_neg cs, if_neg ch2]
  obtain ⟨q1, f', n', a', d', q2, q3, q4⟩ := A z3 z4
  rw [e3, e4] at q2
  exact ⟨eO q1, f', n', a', as1, d', eF.trans q2, FE_t hE q3, q4⟩
/-- the class's side, once the bounds are kept -/
theorem a9 {M : Nat} {y : Int32} (hM : M ≤ 300) (y0 : ¬ y < 0) (y3 : y ≤ 3) (hy : y = 0 ∨ y = 1 ∨ y = 2 ∨ y = 3) (hW : WI J joins W n T) (hT : T + 1800 < 2 ^ 30) (hC : PC J prg op num sndr slnk rcvr rlnk f fop farg joins) (u3 : X 3 0 = 0) (u13 : X 13 0 = 1) : OX9_ahead (nI M) y (X 0) (X 1) (X 2) (X 3) (X 4) (X 5) (X 6) (X 7) (X 8) (X 9) (X 10) (X 11) (X 12) (X 13) (X 14) (X 15) (X 16) (X 17) (X 18) (X 19) (X 20) (X 21) (X 22) (W 0) (W 1) (W 2) (W 4) (W 6) (W 7) (W 8) (W 9) (W 10) (W 11) (W 12) (W 14) (W 16) (W 17) (W 18) (W 19) (W 20) (W 21) (W 22) prg op num sndr slnk rcvr rlnk ∧ ∃ Y : Nat → mF, FX9_ahead (nI M) y (X 0) (X 1) (X 2) (X 3) (X 4) (X 5) (X 6) (X 7) (X 8) (X 9) (X 10) (X 11) (X 12) (X 13) (X 14) (X 15) (X 16) (X 17) (X 18) (X 19) (X 20) (X 21) (X 22) (W 0) (W 1) (W 2) (W 4) (W 6) (W 7) (W 8) (W 9) (W 10) (W 11) (W 12) (W 14) (W 16) (W 17) (W 18) (W 19) (W 20) (W 21) (W 22) prg op num sndr slnk rcvr rlnk = ((if y = 0 then seq prg op num sndr slnk rcvr rlnk M (cW X W) 1 1 - W 1 1 else if y = 1 then hB (seq prg op num sndr slnk rcvr rlnk M (cW X W)) else if y = 2 then (if sK prg sndr slnk rcvr rlnk (cW X W) = 0 then frs prg op num sndr slnk rcvr rlnk (sK prg sndr slnk rcvr rlnk) M 1 (cW X W) else 0) else (if hB (cW X W) = 0 then frs prg op num sndr slnk rcvr rlnk hB M 1 (cW X W) else 0)), Y 0, Y 1, Y 2, Y 3, Y 4, Y 5, Y 6, Y 7, Y 8, Y 9, Y 10, Y 11, Y 12, Y 13, Y 14, Y 15, Y 16, Y 17, Y 18, Y 19, Y 20, Y 21, Y 22) ∧ Y 3 0 = 0 ∧ Y 13 0 = 1 := by
  have x0 : ¬ nI M < 0 := nI_pos (by omega)
  have x3 : ¬ (300 : Int32) < nI M := nI_nlt (a := 300) (b := M) hM (by decide)
  have hU : WI J joins (cW X W) n T := WI_copy hW u3 u13
  obtain ⟨U, eU⟩ : ∃ U, U = cW X W := ⟨_, rfl⟩
  have oc := ocopy_e (U := X) hW.1
  have ec : FX8_copy (X 0) (X 1) (X 2) (X 4) (X 6) (X 7) (X 8) (X 9) (X 10) (X 11) (X 12) (X 14) (X 16) (X 17) (X 18) (X 19) (X 20) (X 21) (X 22) (W 0) (W 1) (W 2) (W 4) (W 6) (W 7) (W 8) (W 9) (W 10) (W 11) (W 12) (W 14) (W 16) (W 17) (W 18) (W 19) (W 20) (W 21) (W 22) = tC U := by rw [eU]; exact copy_e
  have k3 : U 3 = X 3 := by rw [eU]; rfl
  have k5 : U 5 = X 5 := by rw [eU]; rfl
  have k13 : U 13 = X 13 := by rw [eU]; rfl
  have k15 : U 15 = X 15 := by rw [eU]; rfl
  rw [← eU] at hU ⊢
  have os := osof (y := y) hU.1 hC.2
  have z02 : ¬ (0 : Int32) = -2 := by decide
  unfold OX9_ahead FX9_ahead
  rw [ec, if_neg x0, if_neg x3, if_neg y0, if_pos y3, ← k3, ← k5, ← k13, ← k15]
  have nO : ∀ P : Prop, P → ((nI M < 0 → True) ∧ (¬ nI M < 0 → ((300 < nI M → True) ∧ (¬ 300 < nI M → ((y < 0 → True) ∧ (¬ y < 0 → ((y ≤ 3 → P) ∧ (¬ y ≤ 3 → True)))))))) := fun P h => ⟨fun q => absurd q x0, fun _ => ⟨fun q => absurd q x3, fun _ => ⟨fun q => absurd q y0, fun _ => ⟨fun _ => h, fun q => absurd y3 q⟩⟩⟩⟩
  have dif : ¬ y = 0 → ¬ y = 1 → (y = 2 ∨ y = 3) := fun q1 q2 => (hy.resolve_left q1).resolve_left q2
  by_cases cs : sof prg sndr slnk rcvr rlnk y U = 0
  · obtain ⟨l1, Y, l2, l3, l4, l5, l6⟩ := l_ahead9 (y2 := y) (N := nI M) rfl hM M 1 10000 U n f T (by omega) (by omega) hU (by omega) hC
    have l1 : OX9_ahead_b5 10000 (nI M) y (-2) 1 (U 0) (U 1) (U 2) (U 3) (U 4) (U 5) (U 6) (U 7) (U 8) (U 9) (U 10) (U 11) (U 12) (U 13) (U 14) (U 15) (U 16) (U 17) (U 18) (U 19) (U 20) (U 21) (U 22) prg op num sndr slnk rcvr rlnk := l1
    have l2 : FX9_ahead_b5 10000 (nI M) y (-2) 1 (U 0) (U 1) (U 2) (U 3) (U 4) (U 5) (U 6) (U 7) (U 8) (U 9) (U 10) (U 11) (U 12) (U 13) (U 14) (U 15) (U 16) (U 17) (U 18) (U 19) (U 20) (U 21) (U 22) prg op num sndr slnk rcvr rlnk = (frs prg op num sndr slnk rcvr rlnk (sof prg sndr slnk rcvr rlnk y) M 1 U, Y 1, Y 2, Y 3, Y 4, Y 5, Y 6, Y 7, Y 8, Y 9, Y 10, Y 11, Y 12, Y 13, Y 14, Y 15, Y 16, Y 17, Y 18, Y 19, Y 20, Y 21, Y 22) := l2
    refine ⟨nO _ ⟨oc, os, fun _ => l1, fun q => absurd cs q⟩, Y, ?_, l4, l5⟩
    have cs : FX9_isSoFirst y (U 4) (U 7) (U 11) (U 12) (U 14) (U 17) (U 21) (U 22) prg sndr slnk rcvr rlnk = 0 := cs
    unfold tC
    dsimp only
    rw [if_pos cs, l2]
    dsimp only
    rw [← l3]
    by_cases c0 : y = 0
    · have hs : frs prg op num sndr slnk rcvr rlnk (sof prg sndr slnk rcvr rlnk y) M 1 U = -2 := frs_0 (sof_01 (by rw [c0]; decide) (by rw [c0]; decide)) M 1 U
      rw [if_pos c0, if_pos c0, l6 hs]
    · rw [if_neg c0, if_neg c0]
      by_cases c1 : y = 1
      · have hs : frs prg op num sndr slnk rcvr rlnk (sof prg sndr slnk rcvr rlnk y) M 1 U = -2 := frs_0 (sof_01 (by rw [c1]; decide) (by rw [c1]; decide)) M 1 U
        rw [if_pos c1, if_pos c1, l6 hs]
        rfl
      · rw [if_neg c1, if_neg c1]
        by_cases c2 : y = 2
        · subst c2
          rw [if_pos rfl, if_pos ((sof_2 U).mp cs), frs_c sof_2]
        · have c3 : y = 3 := (dif c0 c1).resolve_left c2
          subst c3
          rw [if_neg c2, if_pos ((sof_3 U).mp cs), frs_c sof_3]
  · obtain ⟨l1, l2⟩ := ah_stop (fuel := 9999) (N := nI M) (y2 := y) (y3 := 0) (y4 := 1) (W := U) (prg := prg) (op := op) (num := num) (sndr := sndr) (slnk := slnk) (rcvr := rcvr) (rlnk := rlnk) z02
    refine ⟨nO _ ⟨oc, os, fun q => absurd q cs, fun _ => l1⟩, U, ?_, hU.2.2.2.1, hU.2.2.2.2.1⟩
    have cs' : ¬ FX9_isSoFirst y (U 4) (U 7) (U 11) (U 12) (U 14) (U 17) (U 21) (U 22) prg sndr slnk rcvr rlnk = 0 := cs
    unfold tC
    dsimp only
    rw [if_neg cs', show FX9_ahead_b5 10000 (nI M) y 0 1 (U 0) (U 1) (U 2) (U 3) (U 4) (U 5) (U 6) (U 7) (U 8) (U 9) (U 10) (U 11) (U 12) (U 13) (U 14) (U 15) (U 16) (U 17) (U 18) (U 19) (U 20) (U 21) (U 22) prg op num sndr slnk rcvr rlnk = (0, U 1, U 2, U 3, U 4, U 5, U 6, U 7, U 8, U 9, U 10, U 11, U 12, U 13, U 14, U 15, U 16, U 17, U 18, U 19, U 20, U 21, U 22) from l2]
    dsimp only
    have c0 : ¬ y = 0 := fun q => cs (sof_01 (by rw [q]; decide) (by rw [q]; decide) U)
    have c1 : ¬ y = 1 := fun q => cs (sof_01 (by rw [q]; decide) (by rw [q]; decide) U)
    rw [if_neg c0, if_neg c0, if_neg c1, if_neg c1]
    by_cases c2 : y = 2
    · subst c2
      rw [if_pos rfl, if_neg (fun q => cs ((sof_2 U).mpr q))]
    · have c3 : y = 3 := (dif c0 c1).resolve_left c2
      subst c3
      rw [if_neg c2, if_neg (fun q => cs ((sof_3 U).mpr q))]
theorem c_ahead {x y : Int32} (hW : WI J joins W n T) (hT : T + 1800 < 2 ^ 30) (hC : PC J prg op num sndr slnk rcvr rlnk f fop farg joins) (u3 : X 3 0 = 0) (u13 : X 13 0 = 1) : OX9_ahead x y (X 0) (X 1) (X 2) (X 3) (X 4) (X 5) (X 6) (X 7) (X 8) (X 9) (X 10) (X 11) (X 12) (X 13) (X 14) (X 15) (X 16) (X 17) (X 18) (X 19) (X 20) (X 21) (X 22) (W 0) (W 1) (W 2) (W 4) (W 6) (W 7) (W 8) (W 9) (W 10) (W 11) (W 12) (W 14) (W 16) (W 17) (W 18) (W 19) (W 20) (W 21) (W 22) prg op num sndr slnk rcvr rlnk ∧ OX10_ahead x y f fop farg joins n a as d ∧ ∃ (v : Int32) (Y : Nat → mF) (f' n' a' as' d' : mF), FX9_ahead x y (X 0) (X 1) (X 2) (X 3) (X 4) (X 5) (X 6) (X 7) (X 8) (X 9) (X 10) (X 11) (X 12) (X 13) (X 14) (X 15) (X 16) (X 17) (X 18) (X 19) (X 20) (X 21) (X 22) (W 0) (W 1) (W 2) (W 4) (W 6) (W 7) (W 8) (W 9) (W 10) (W 11) (W 12) (W 14) (W 16) (W 17) (W 18) (W 19) (W 20) (W 21) (W 22) prg op num sndr slnk rcvr rlnk = (v, Y 0, Y 1, Y 2, Y 3, Y 4, Y 5, Y 6, Y 7, Y 8, Y 9, Y 10, Y 11, Y 12, Y 13, Y 14, Y 15, Y 16, Y 17, Y 18, Y 19, Y 20, Y 21, Y 22) ∧ FX10_ahead x y f fop farg joins n a as d = (v, f', n', a', as', d') ∧ Y 3 0 = 0 ∧ Y 13 0 = 1 ∧ FE f f' ∧ ∀ k, k < 532 → n' k = n k := by
  have z10 : ¬ (1 : Int32) = 0 := by decide
  rcases inC (C := 300) (by decide) x with ⟨M, hM, rfl, x0, x3, hx⟩ | ⟨hx, h⟩
  · have hx : FX10_isIn (nI M) 0 300 = 1 := hx
    have x3 : ¬ (300 : Int32) < nI M := x3
    rcases inC (C := 3) (by decide) y with ⟨m, hm, rfl, y0, y3, hy⟩ | ⟨hy, h⟩
    · have hy : FX10_isIn (nI m) 0 3 = 1 := hy
      have y3' : nI m ≤ (3 : Int32) := Int32.not_lt.mp y3
      have hv : nI m = 0 ∨ nI m = 1 ∨ nI m = 2 ∨ nI m = 3 := by
        rcases (show m = 0 ∨ m = 1 ∨ m = 2 ∨ m = 3 by omega) with rfl | rfl | rfl | rfl <;> decide
      obtain ⟨p1, Y, p2, p3, p4⟩ := a9 (X := X) hM y0 y3' hv hW hT hC u3 u13
      obtain ⟨q1, f', n', a', as', d', q2, q3, q4⟩ := a10w (a := a) (as := as) (d := d) (y := nI m) hM hy hx (WI_copy hW u3 u13) hT hC
      rw [hW.2.1.2.1] at q2
      exact ⟨p1, q1, _, Y, f', n', a', as', d', p2, q2, p3, p4, q3, q4⟩
    · have hy : FX10_isIn y 0 3 = 0 := hy
      have hy9 : y < 0 ∨ (¬ y < 0 ∧ ¬ y ≤ 3) := by
        rcases h with h | ⟨h, h2⟩
        · exact Or.inl h
        · exact Or.inr ⟨h, Int32.not_le.mpr h2⟩
      refine ⟨⟨fun q => absurd q x0, fun _ => ⟨fun q => absurd q x3, fun _ => ⟨fun _ => trivial, fun q => ⟨fun q2 => ?_, fun _ => trivial⟩⟩⟩⟩, ?_, -1, X, upd f 0 0, n, a, as, d, ?_, ?_, u3, u13, FE_0, fun _ _ => rfl⟩
      · rcases hy9 with h | ⟨h, h2⟩
        · exact absurd h q
        · exact absurd q2 h2
      · unfold OX10_ahead
        rw [hx, hy]
        exact ⟨fun q => absurd q z10, fun _ => ⟨fun _ => trivial, fun q => absurd rfl q⟩⟩
      · unfold FX9_ahead
        rw [if_neg x0, if_neg x3]
        rcases hy9 with h | ⟨h, h2⟩
        · rw [if_pos h]
        · rw [if_neg h, if_neg h2]
      · unfold FX10_ahead
        rw [hx, hy]
        dsimp only
        rw [if_neg z10, if_pos rfl]
  · have hx : FX10_isIn x 0 300 = 0 := hx
    have h : x < 0 ∨ (¬ x < 0 ∧ (300 : Int32) < x) := h
    refine ⟨⟨fun _ => trivial, fun q => ⟨fun _ => trivial, fun q2 => ?_⟩⟩, ?_, -1, X, upd f 0 0, n, a, as, d, ?_, ?_, u3, u13, FE_0, fun _ _ => rfl⟩
    · rcases h with h | ⟨h, h2⟩
      · exact absurd h q
      · exact absurd h2 q2
    · unfold OX10_ahead
      rw [hx]
      exact ⟨fun _ => trivial, fun q => absurd rfl q⟩
    · unfold FX9_ahead
      rcases h with h | ⟨h, h2⟩
      · rw [if_pos h]
      · rw [if_neg h, if_pos h2]
    · unfold FX10_ahead
      rw [hx]
      dsimp only
      rw [if_pos rfl]
end AHW
