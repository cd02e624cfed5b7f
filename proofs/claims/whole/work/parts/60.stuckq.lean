/-! PURE: stuck, count, label, code asked on both sides (GENERATED, wip/gen/p/60.py) -/
section STK
variable {W : Nat → mF} {f joins n : mF}
/-- one who has something to do yet -/
def busy (n : mF) (b : Nat) : Prop := n (b + 102) = 1 ∨ n (b + 110) = 1 ∨ ¬ n (b + 98) = -1 ∨ ¬ n (b + 99) = -1 ∨ ¬ n (b + 117) ≤ 0
theorem p_rest {m : Nat} (h : RMw W m (fun k => n (174 * m + k))) : (FX3_isAtRest (W (4 + 10 * m)) (W (7 + 10 * m)) = 1 ∧ (n (174 * m + 97) = 0 → ¬ busy n (174 * m))) ∨ (FX3_isAtRest (W (4 + 10 * m)) (W (7 + 10 * m)) = 0 ∧ n (174 * m + 97) = 0 ∧ busy n (174 * m)) := by
  have z10 : ¬ (1 : Int32) = 0 := by decide
  have z01 : ¬ (0 : Int32) = 1 := by decide
  obtain ⟨h1, -, ⟨h3, h4, -⟩, h5, ⟨-, h6, h7⟩, ⟨s, s1, s2, s3, -⟩, -⟩ := h
  have h3 : n (174 * m + 98) = W (4 + 10 * m) 14 := h3
  have h4 : n (174 * m + 99) = W (4 + 10 * m) 15 := h4
  have h6 : n (174 * m + 97) = W (4 + 10 * m) 19 := h6
  have s3 : n (174 * m + 117) = nI s := s3
  unfold busy FX3_isAtRest
  dsimp only
  rw [h3, h4, h6, s2, s3]
  rcases h7 with a | a
  · have fa : FX3_isHalted (W (4 + 10 * m)) = 0 := if_pos a
    rw [if_pos fa]
    rcases h1 with ⟨r1, r2⟩ | hOn
    · have r2 : n (174 * m + 102) = 0 := r2
      have fr : FX3_isRunning (W (4 + 10 * m)) = 0 := by
        unfold FX3_isRunning
        rw [r1]
        rfl
      have hr : ¬ n (174 * m + 102) = 1 := by rw [r2]; exact z01
      rw [if_pos fr]
      rcases h5 with ⟨t1, t2⟩ | ⟨t1, -, t2, -⟩
      · have t2 : n (174 * m + 110) = 0 := t2
        have ht : ¬ n (174 * m + 110) = 1 := by rw [t2]; exact z01
        rw [if_pos t1]
        by_cases c3 : W (4 + 10 * m) 14 = -1
        · rw [if_pos c3]
          by_cases c4 : W (4 + 10 * m) 15 = -1
          · rw [if_pos c4]
            rcases Nat.eq_zero_or_pos s with q | q
            · subst q
              rw [if_pos nI_0]
              refine Or.inl ⟨rfl, fun _ hb => ?_⟩
              rcases hb with hb | hb | hb | hb | hb
              · exact hr hb
              · exact ht hb
              · exact hb c3
              · exact hb c4
              · exact hb (by decide)
            · rw [if_neg (nI_ne0 q (by omega))]
              exact Or.inr ⟨rfl, a, Or.inr (Or.inr (Or.inr (Or.inr (nI_nle q (by omega)))))⟩
          · rw [if_neg c4]
            exact Or.inr ⟨rfl, a, Or.inr (Or.inr (Or.inr (Or.inl c4)))⟩
        · rw [if_neg c3]
          exact Or.inr ⟨rfl, a, Or.inr (Or.inr (Or.inl c3))⟩
      · rw [if_neg (wNN t1)]
        exact Or.inr ⟨rfl, a, Or.inr (Or.inl t2)⟩
    · have fr : ¬ FX3_isRunning (W (4 + 10 * m)) = 0 := by
        unfold FX3_isRunning
        rw [if_neg (wNN hOn.1)]
        exact z10
      rw [if_neg fr]
      exact Or.inr ⟨rfl, a, Or.inl hOn.2.1⟩
  · have fa : ¬ FX3_isHalted (W (4 + 10 * m)) = 0 := by
      unfold FX3_isHalted
      rw [a]
      exact z10
    rw [if_neg fa, a]
    exact Or.inl ⟨rfl, fun q => absurd q z10⟩
theorem s_step {m fuel : Nat} (hm : m < 2) : ((n (174 * m + 97) = 0 → ¬ busy n (174 * m)) → (OX10_isStuck_b1 fuel (nI (m + 1)) (upd f 45 (nI (174 * m))) joins n → OX10_isStuck_b1 (fuel + 1) (nI m) f joins n) ∧ FX10_isStuck_b1 (fuel + 1) (nI m) f joins n = FX10_isStuck_b1 fuel (nI (m + 1)) (upd f 45 (nI (174 * m))) joins n) ∧ (n (174 * m + 97) = 0 → busy n (174 * m) → OX10_isStuck_b1 (fuel + 1) (nI m) f joins n ∧ FX10_isStuck_b1 (fuel + 1) (nI m) f joins n = (0, upd f 45 (nI (174 * m)))) := by
  have eb : FX10_base (nI m) = nI (174 * m) := by rcases (show m = 0 ∨ m = 1 by omega) with rfl | rfl <;> decide
  have c : ¬ (2 : Int32) ≤ nI m := nI_ge (b := 2) (by omega) (by decide)
  have G : ∀ k, k < 174 → FX10_get (nI k) (upd f 45 (nI (174 * m))) n = n (174 * m + k) ∧ OX10_get (nI k) (upd f 45 (nI (174 * m))) n := fun k hk => get_i (by omega)
  have g97 : FX10_get 97 (upd f 45 (nI (174 * m))) n = n (174 * m + 97) := (G 97 (by decide)).1
  have g102 : FX10_get 102 (upd f 45 (nI (174 * m))) n = n (174 * m + 102) := (G 102 (by decide)).1
  have g110 : FX10_get 110 (upd f 45 (nI (174 * m))) n = n (174 * m + 110) := (G 110 (by decide)).1
  have g98 : FX10_get 98 (upd f 45 (nI (174 * m))) n = n (174 * m + 98) := (G 98 (by decide)).1
  have g99 : FX10_get 99 (upd f 45 (nI (174 * m))) n = n (174 * m + 99) := (G 99 (by decide)).1
  have g117 : FX10_get 117 (upd f 45 (nI (174 * m))) n = n (174 * m + 117) := (G 117 (by decide)).1
  have o97 : OX10_get 97 (upd f 45 (nI (174 * m))) n := (G 97 (by decide)).2
  have o102 : OX10_get 102 (upd f 45 (nI (174 * m))) n := (G 102 (by decide)).2
  have o110 : OX10_get 110 (upd f 45 (nI (174 * m))) n := (G 110 (by decide)).2
  have o98 : OX10_get 98 (upd f 45 (nI (174 * m))) n := (G 98 (by decide)).2
  have o99 : OX10_get 99 (upd f 45 (nI (174 * m))) n := (G 99 (by decide)).2
  have o117 : OX10_get 117 (upd f 45 (nI (174 * m))) n := (G 117 (by decide)).2
  rw [OX10_isStuck_b1, FX10_isStuck_b1, if_neg c, eb]
  dsimp only
  rw [g97, g102, g110, g98, g99, g117, nI_1]
  constructor
  · intro hnb
    refine ⟨fun hO => ⟨fun q => absurd q c, fun _ => ⟨o97, fun _ => ⟨o102, fun _ => trivial, fun _ => ⟨o110, fun _ => trivial, fun _ => ⟨o98, fun _ => ⟨o99, fun _ => ⟨o117, fun _ => hO, fun _ => trivial⟩, fun _ => trivial⟩, fun _ => trivial⟩⟩⟩, fun _ => hO⟩⟩, ?_⟩
    by_cases c0 : n (174 * m + 97) = 0
    · have hb := hnb c0
      rw [if_pos c0, if_neg (fun q => hb (Or.inl q)), if_neg (fun q => hb (Or.inr (Or.inl q))), if_pos (Classical.byContradiction fun q => hb (Or.inr (Or.inr (Or.inl q)))), if_pos (Classical.byContradiction fun q => hb (Or.inr (Or.inr (Or.inr (Or.inl q))))), if_pos (Classical.byContradiction fun q => hb (Or.inr (Or.inr (Or.inr (Or.inr q)))))]
    · rw [if_neg c0]
  · intro c0 hb
    refine ⟨⟨fun q => absurd q c, fun _ => ⟨o97, fun _ => ⟨o102, fun _ => trivial, fun d1 => ⟨o110, fun _ => trivial, fun d2 => ⟨o98, fun d3 => ⟨o99, fun d4 => ⟨o117, fun d5 => ?_, fun _ => trivial⟩, fun _ => trivial⟩, fun _ => trivial⟩⟩⟩, fun q => absurd c0 q⟩⟩, ?_⟩
    · exfalso
      rcases hb with hb | hb | hb | hb | hb
      · exact d1 hb
      · exact d2 hb
      · exact hb d3
      · exact hb d4
      · exact hb d5
    · rw [if_pos c0]
      by_cases d1 : n (174 * m + 102) = 1
      · rw [if_pos d1]
      · rw [if_neg d1]
        by_cases d2 : n (174 * m + 110) = 1
        · rw [if_pos d2]
        · rw [if_neg d2]
          by_cases d3 : n (174 * m + 98) = -1
          · rw [if_pos d3]
            by_cases d4 : n (174 * m + 99) = -1
            · rw [if_pos d4]
              by_cases d5 : n (174 * m + 117) ≤ 0
              · exfalso
                rcases hb with hb | hb | hb | hb | hb
                · exact d1 hb
                · exact d2 hb
                · exact hb d3
                · exact hb d4
                · exact hb d5
              · rw [if_neg d5]
            · rw [if_neg d4]
          · rw [if_neg d3]
theorem p_stuck {prg sndr slnk rcvr rlnk : mF} {J : Nat} (hR : RW2 W n) (hC : RJs J prg sndr slnk rcvr rlnk f joins) : OX8_isStuck (W 4) (W 7) (W 11) (W 12) (W 14) (W 17) (W 21) (W 22) prg sndr slnk rcvr rlnk ∧ OX10_isStuck f joins n ∧ ∃ f', FX10_isStuck f joins n = (FX8_isStuck (W 4) (W 7) (W 11) (W 12) (W 14) (W 17) (W 21) (W 22) prg sndr slnk rcvr rlnk, f') ∧ ∀ k, k ≠ 45 → f' k = f k := by
  have z10 : ¬ (1 : Int32) = 0 := by decide
  obtain ⟨J1, J2, J3, J4, J5⟩ := hC
  have s0 := s_step (f := f) (joins := joins) (n := n) (m := 0) (fuel := 9999) (by decide)
  rw [nI_0] at s0
  have u1 : OX10_isStuck f joins n = OX10_isStuck_b1 10000 0 f joins n := rfl
  have u2 : FX10_isStuck f joins n = FX10_isStuck_b1 10000 0 f joins n := rfl
  rw [u1, u2]
  rcases p_rest (hR 0 (by decide)) with ⟨r1, r2⟩ | ⟨r1, r2, r3⟩
  · have r1 : FX3_isAtRest (W 4) (W 7) = 1 := r1
    obtain ⟨a1, a2⟩ := s0.1 r2
    have s1 := s_step (f := upd f 45 (nI (174 * 0))) (joins := joins) (n := n) (m := 1) (fuel := 9998) (by decide)
    rcases p_rest (hR 1 (by decide)) with ⟨t1, t2⟩ | ⟨t1, t2, t3⟩
    · have t1 : FX3_isAtRest (W 14) (W 17) = 1 := t1
      obtain ⟨b1, b2⟩ := s1.1 t2
      have hk : ∀ k, k ≠ 45 → upd (upd f 45 (nI (174 * 0))) 45 (nI (174 * 1)) k = f k := fun k h => (pk_un h).trans (pk_un h)
      obtain ⟨l1, l2, l3⟩ := l_stuck (W := W) (f := upd (upd f 45 (nI (174 * 0))) 45 (nI (174 * 1))) (n := n) hR ⟨J1, J2, (hk 35 (by decide)).trans J3, J4, J5⟩ J 0 10000 (by omega) (by omega)
      rw [nI_0] at l1 l2 l3
      have c2 : (2 : Int32) ≤ nI (1 + 1) := by decide
      have m1 : OX10_isStuck_b1 9998 (nI (1 + 1)) (upd (upd f 45 (nI (174 * 0))) 45 (nI (174 * 1))) joins n := by
        rw [OX10_isStuck_b1]
        exact ⟨fun _ => l2, fun q => absurd c2 q⟩
      have m2 : FX10_isStuck_b1 9998 (nI (1 + 1)) (upd (upd f 45 (nI (174 * 0))) 45 (nI (174 * 1))) joins n = _ := (by rw [FX10_isStuck_b1, if_pos c2] : _ = FX10_isStuck_b5 10000 0 (upd (upd f 45 (nI (174 * 0))) 45 (nI (174 * 1))) joins n).trans l3
      refine ⟨⟨fun q => absurd (r1.symm.trans q) z10, fun _ => ⟨fun q => absurd (t1.symm.trans q) z10, fun _ => l1⟩⟩, a1 (b1 m1), upd (upd f 45 (nI (174 * 0))) 45 (nI (174 * 1)), (a2.trans (b2.trans m2)).trans ?_, hk⟩
      unfold FX8_isStuck
      dsimp only
      rw [r1, t1, if_neg z10, if_neg z10]
      (try rfl)
    · have t1 : FX3_isAtRest (W 14) (W 17) = 0 := t1
      obtain ⟨b1, b2⟩ := s1.2 t2 t3
      refine ⟨⟨fun q => absurd (r1.symm.trans q) z10, fun _ => ⟨fun _ => trivial, fun q => absurd t1 q⟩⟩, a1 b1, upd (upd f 45 (nI (174 * 0))) 45 (nI (174 * 1)), (a2.trans b2).trans ?_, fun k h => (pk_un h).trans (pk_un h)⟩
      unfold FX8_isStuck
      dsimp only
      rw [r1, t1, if_neg z10, if_pos rfl]
      (try rfl)
  · have r1 : FX3_isAtRest (W 4) (W 7) = 0 := r1
    obtain ⟨a1, a2⟩ := s0.2 r2 r3
    refine ⟨⟨fun _ => trivial, fun q => absurd r1 q⟩, a1, upd f 45 (nI (174 * 0)), a2.trans ?_, fun k h => pk_un h⟩
    unfold FX8_isStuck
    dsimp only
    rw [r1, if_pos rfl]
    (try rfl)
theorem b3_01 {prg sndr slnk rcvr rlnk ra za ka la rb zb kb lb : mF} : ∀ (fuel : Nat) (y : Int32), FX8_isStuck_b3 fuel y ra za ka la rb zb kb lb prg sndr slnk rcvr rlnk = 0 ∨ FX8_isStuck_b3 fuel y ra za ka la rb zb kb lb prg sndr slnk rcvr rlnk = 1
  | 0, _ => Or.inl rfl
  | fuel + 1, y => by
    have ih := b3_01 (prg := prg) (sndr := sndr) (slnk := slnk) (rcvr := rcvr) (rlnk := rlnk) (ra := ra) (za := za) (ka := ka) (la := la) (rb := rb) (zb := zb) (kb := kb) (lb := lb) fuel (y + 1)
    rw [FX8_isStuck_b3]
    split
    · exact Or.inr rfl
    · dsimp only
      split
      · exact ih
      · exact Or.inl rfl
theorem stuck_01 {prg sndr slnk rcvr rlnk ra za ka la rb zb kb lb : mF} : FX8_isStuck ra za ka la rb zb kb lb prg sndr slnk rcvr rlnk = 0 ∨ FX8_isStuck ra za ka la rb zb kb lb prg sndr slnk rcvr rlnk = 1 := by
  unfold FX8_isStuck
  dsimp only
  split
  · exact Or.inl rfl
  · split
    · exact Or.inl rfl
    · exact b3_01 _ _
theorem c_stuck {prg sndr slnk rcvr rlnk : mF} {J : Nat} (hR : RW2 W n) (hC : RJs J prg sndr slnk rcvr rlnk f joins) : OX9_stuck (W 4) (W 7) (W 11) (W 12) (W 14) (W 17) (W 21) (W 22) prg sndr slnk rcvr rlnk ∧ OX10_stuck f joins n ∧ ∃ f', FX10_stuck f joins n = (FX9_stuck (W 4) (W 7) (W 11) (W 12) (W 14) (W 17) (W 21) (W 22) prg sndr slnk rcvr rlnk, f') ∧ FE f f' := by
  obtain ⟨J1, J2, J3, J4, J5⟩ := hC
  obtain ⟨q1, q2, f', q3, q4⟩ := p_stuck (f := upd f 0 0) hR ⟨J1, J2, (pk_un (by decide)).trans J3, J4, J5⟩
  refine ⟨⟨q1, stuck_01⟩, ⟨q2, ?_⟩, f', ?_, fun k a b _ => (q4 k b).trans (pk_un a)⟩
  · rw [q3]
    exact stuck_01
  · unfold FX10_stuck
    rw [q3]
    rfl
end STK
section CNT
variable {W : Nat → mF} {f n prg this hist : mF}
theorem c_count {x : Int32} {T : Nat} (a1 : prg 1 = f 33) (a2 : prg 4 = f 34) (a3 : prg 7 = f 35) (a4 : n 348 = W 0 2) (a5 : RD (W 1) (W 2) n T) (a6 : hist 0 = f 44) (a7 : this 1 = f 4) : FX10_count x f n = (FX9_count x this (W 0) (W 1) prg hist, upd f 0 0) := by
  unfold FX10_count FX9_count
  rw [a1, a2, a3, a4, a5.1, a5.2.1, a6, a7]
  split
  · rfl
  · split
    · rfl
    · split
      · rfl
      · split
        · rfl
        · split
          · rfl
          · split
            · rfl
            · split
              · rfl
              · split <;> rfl
theorem c_label {x : Int32} {L : Nat} {la lb : mF} (hL : L ≤ 101) (a1 : prg 4 = nI L) (a2 : f 34 = nI L) (a3 : ∀ k, k < L → lb k = la k) : OX9_label x prg la ∧ OX10_label x f lb ∧ FX10_label x f lb = (FX9_label x prg la, upd f 0 0) := by
  have z10 : ¬ (1 : Int32) = 0 := by decide
  unfold OX9_label OX10_label FX10_label FX9_label
  rw [a1, a2]
  by_cases h : x < 0
  · have e : FX10_isIn x 0 (nI L - 1) = 0 := if_pos h
    rw [e, if_pos h]
    exact ⟨⟨fun _ => trivial, fun q => absurd h q⟩, ⟨fun _ => trivial, fun q => absurd rfl q⟩, rfl⟩
  · obtain ⟨k, hk, rfl⟩ := nI_of h
    have hcl : (nI k).toNatClampNeg = k := nI_clamp (by omega)
    rcases Nat.lt_or_ge k L with q | q
    · have e : FX10_isIn (nI k) 0 (nI L - 1) = 1 := by
        unfold FX10_isIn
        rw [if_neg h, show nI L - 1 = nI (L - 1) from nI_sub (a := L) (c := 1) (by omega), if_neg (nI_nlt (a := L - 1) (b := k) (by omega) (by omega))]
      have v : vp_in (nI k) 101 := vp_in_nI (by omega) (by decide)
      rw [e, if_neg h, if_pos (nI_lt q (by omega)), hcl]
      refine ⟨⟨fun q => absurd q h, fun _ => ⟨fun _ => v, fun _ => trivial⟩⟩, ⟨fun q => absurd q z10, fun _ => v⟩, ?_⟩
      dsimp only
      rw [if_neg z10, a3 k q]
    · have c : ¬ nI k < nI L := nI_nlt (a := k) (b := L) q (by omega)
      have e : FX10_isIn (nI k) 0 (nI L - 1) = 0 := by
        unfold FX10_isIn
        rw [if_neg h]
        apply if_pos
        rcases Nat.eq_zero_or_pos L with z | z
        · subst z
          exact Int32.lt_of_lt_of_le (by decide) (nI_pos' hk)
        · rw [show nI L - 1 = nI (L - 1) from nI_sub (a := L) (c := 1) (by omega)]
          exact nI_lt (by omega) hk
      rw [e, if_neg h, if_neg c]
      exact ⟨⟨fun q => absurd q h, fun _ => ⟨fun q => absurd q c, fun _ => trivial⟩⟩, ⟨fun _ => trivial, fun q => absurd rfl q⟩, rfl⟩
/-- a piece of code is asked -/
theorem c_code {x y : Int32} {L : Nat} {op num fop farg : mF} (hL : L ≤ 100) (a1 : prg 1 = nI L) (a2 : f 33 = nI L) (a3 : ∀ k, k < L → fop k = op k ∧ farg k = num k) : OX10_code x y f fop farg ∧ ((OX9_code x y prg op num ∧ FX10_code x y f fop farg = (FX9_code x y prg op num, upd f 0 0) ∧ ¬ x < 0 ∧ ¬ prg 1 ≤ x ∧ ¬ y < 0 ∧ y ≤ 1) ∨ (FX10_code x y f fop farg = (0, upd f 0 1) ∧ (x < 0 ∨ (¬ x < 0 ∧ prg 1 ≤ x) ∨ (¬ x < 0 ∧ ¬ prg 1 ≤ x ∧ y < 0) ∨ (¬ x < 0 ∧ ¬ prg 1 ≤ x ∧ ¬ y < 0 ∧ ¬ y ≤ 1)))) := by
  have z10 : ¬ (1 : Int32) = 0 := by decide
  unfold OX10_code FX10_code OX9_code FX9_code
  rw [a1, a2]
  rcases inPrg (x := x) hL with ⟨e, h1, h2, k, hk, ek⟩ | ⟨e, h⟩
  · have hcl : x.toNatClampNeg = k := by rw [ek]; exact nI_clamp (by omega)
    have v : vp_in x 100 := by rw [ek]; exact vp_in_nI (by omega) (by decide)
    have h3 : ¬ nI L ≤ x := Int32.not_le.mpr h2
    obtain ⟨b1, b2⟩ := a3 k hk
    rw [e, if_neg h1, if_neg h3, hcl]
    dsimp only
    rw [if_neg z10]
    rcases bit_c y with hy | ⟨hy, hy2⟩
    · have y0 : ¬ y < 0 := by rcases hy with rfl | rfl <;> decide
      have y1 : y ≤ 1 := by rcases hy with rfl | rfl <;> decide
      have y3 : ¬ FX10_isIn y 0 1 = 0 := by rcases hy with rfl | rfl <;> decide
      refine ⟨⟨fun q => absurd q z10, fun _ => ⟨fun q => absurd q y3, fun _ => ⟨fun _ => v, fun _ => v⟩⟩⟩, Or.inl ⟨⟨fun q => absurd q h1, fun _ => ⟨fun q => absurd q h3, fun _ => ⟨fun q => absurd q y0, fun _ => ⟨fun _ => ⟨fun _ => v, fun _ => v⟩, fun q => absurd y1 q⟩⟩⟩⟩, ?_, h1, h3, y0, y1⟩⟩
      rw [if_neg y3, if_neg y0, if_pos y1]
      rcases hy with rfl | rfl
      · rw [if_pos rfl, if_pos rfl, b1]
      · rw [if_neg z10, if_neg z10, b2]
    · refine ⟨⟨fun q => absurd q z10, fun _ => ⟨fun _ => trivial, fun q => absurd hy q⟩⟩, Or.inr ⟨if_pos hy, ?_⟩⟩
      rcases hy2 with y0 | ⟨y0, y2, y3⟩
      · exact Or.inr (Or.inr (Or.inl ⟨h1, h3, y0⟩))
      · refine Or.inr (Or.inr (Or.inr ⟨h1, h3, y0, fun q => y2 (Int32.lt_of_le_of_lt q (by decide))⟩))
  · rw [e]
    dsimp only
    refine ⟨⟨fun _ => trivial, fun q => absurd rfl q⟩, Or.inr ⟨if_pos rfl, ?_⟩⟩
    rcases h with h | ⟨h, h2⟩
    · exact Or.inl h
    · exact Or.inr (Or.inl ⟨h, Int32.not_lt.mp h2⟩)
end CNT
