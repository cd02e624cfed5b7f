/-! PURE: what will be: share and until whole (GENERATED, wip/gen/p/64.py) -/
section SHW
variable {W X : Nat → mF} {prg op num sndr slnk rcvr rlnk f fop farg joins n a as d : mF} {J T : Nat}
theorem mach_n {x : Int32} (hx : x = 0 ∨ x = 1) : ∃ mm : Nat, mm < 2 ∧ x = nI mm ∧ ¬ FX9_isMachine x = 0 ∧ ¬ FX10_isMachine x = 0 := by
  rcases hx with rfl | rfl
  · exact ⟨0, by decide, nI_0.symm, by decide, by decide⟩
  · exact ⟨1, by decide, by decide, by decide, by decide⟩
theorem c_share {x y z : Int32} (hW : WI J joins W n T) (hT : T + 1800 < 2 ^ 30) (hC : PC J prg op num sndr slnk rcvr rlnk f fop farg joins) (u3 : X 3 0 = 0) (u13 : X 13 0 = 1) : OX9_share x y z (X 0) (X 1) (X 2) (X 3) (X 4) (X 5) (X 6) (X 7) (X 8) (X 9) (X 10) (X 11) (X 12) (X 13) (X 14) (X 15) (X 16) (X 17) (X 18) (X 19) (X 20) (X 21) (X 22) (W 0) (W 1) (W 2) (W 4) (W 6) (W 7) (W 8) (W 9) (W 10) (W 11) (W 12) (W 14) (W 16) (W 17) (W 18) (W 19) (W 20) (W 21) (W 22) prg op num sndr slnk rcvr rlnk ∧ OX10_share x y z f fop farg joins n a as d ∧ ∃ (v : Int32) (Y : Nat → mF) (f' n' a' as' d' : mF), FX9_share x y z (X 0) (X 1) (X 2) (X 3) (X 4) (X 5) (X 6) (X 7) (X 8) (X 9) (X 10) (X 11) (X 12) (X 13) (X 14) (X 15) (X 16) (X 17) (X 18) (X 19) (X 20) (X 21) (X 22) (W 0) (W 1) (W 2) (W 4) (W 6) (W 7) (W 8) (W 9) (W 10) (W 11) (W 12) (W 14) (W 16) (W 17) (W 18) (W 19) (W 20) (W 21) (W 22) prg op num sndr slnk rcvr rlnk = (v, Y 0, Y 1, Y 2, Y 3, Y 4, Y 5, Y 6, Y 7, Y 8, Y 9, Y 10, Y 11, Y 12, Y 13, Y 14, Y 15, Y 16, Y 17, Y 18, Y 19, Y 20, Y 21, Y 22) ∧ FX10_share x y z f fop farg joins n a as d = (v, f', n', a', as', d') ∧ Y 3 0 = 0 ∧ Y 13 0 = 1 ∧ FE f f' ∧ ∀ k, k < 532 → n' k = n k := by
  have z10 : ¬ (1 : Int32) = 0 := by decide
  rcases mach_c x with hx | ⟨h10, h9⟩
  · obtain ⟨mm, hm, ex, m9, m10⟩ := mach_n hx
    rcases inC (C := 2) (by decide) y with ⟨q, hq, ey, y0, y2, hy⟩ | ⟨hy, h⟩
    · have hy : ¬ FX10_isIn y 0 2 = 0 := fun e => z10 (hy.symm.trans e)
      have y2 : ¬ (2 : Int32) < y := y2
      rcases inC1 (C := 300) (by decide) z with ⟨M, hM1, hM, ez, t1, t2, t3, hz⟩ | ⟨hz, h⟩
      · have hz : ¬ FX10_isIn z 1 300 = 0 := fun e => z10 (hz.symm.trans e)
        have t3 : z ≤ (300 : Int32) := t3
        obtain ⟨U, eU⟩ : ∃ U, U = cW X W := ⟨_, rfl⟩
        have hU : WI J joins U n T := by rw [eU]; exact WI_copy hW u3 u13
        have oc := ocopy_e (U := X) hW.1
        have ec : FX8_copy (X 0) (X 1) (X 2) (X 4) (X 6) (X 7) (X 8) (X 9) (X 10) (X 11) (X 12) (X 14) (X 16) (X 17) (X 18) (X 19) (X 20) (X 21) (X 22) (W 0) (W 1) (W 2) (W 4) (W 6) (W 7) (W 8) (W 9) (W 10) (W 11) (W 12) (W 14) (W 16) (W 17) (W 18) (W 19) (W 20) (W 21) (W 22) = tC U := by rw [eU]; exact copy_e
        have k3 : U 3 = X 3 := by rw [eU]; rfl
        have k5 : U 5 = X 5 := by rw [eU]; rfl
        have k13 : U 13 = X 13 := by rw [eU]; rfl
        have k15 : U 15 = X 15 := by rw [eU]; rfl
        have hC0 : PC J prg op num sndr slnk rcvr rlnk (upd f 0 0) fop farg joins := PC_f hC (pk_un (by decide)) (pk_un (by decide))
        obtain ⟨l1, l2⟩ := l_share9 (y := y) ez hM hm ex M 0 10000 U n f T 0 (by omega) (by omega) hU (by omega) hC
        obtain ⟨r1, f', n1, a', d', r2, r3, r4⟩ := l_share10 (y := y) ez hM hm ex M 0 10000 U n (upd f 0 0) a d T 0 (by omega) (by omega) hU (by omega) hC0
        rw [nI_0] at l1 l2 r1 r2
        obtain ⟨s1, as1, s2, s3⟩ := p_aside (n := n) (as := as)
        obtain ⟨b1, n2, b2, b3⟩ := p_cback (n := n1) (as := as1)
        have e0 : seq prg op num sndr slnk rcvr rlnk M U 0 = U 0 := seq_0 M U
        refine ⟨⟨fun q => absurd q m9, fun _ => ⟨fun q => absurd q y0, fun _ => ⟨fun q => absurd q y2, fun _ => ⟨fun q => absurd q t1, fun _ => ⟨fun _ => ?_, fun q => absurd t3 q⟩⟩⟩⟩⟩, ?_, shr prg op num sndr slnk rcvr rlnk mm y M U 0, seq prg op num sndr slnk rcvr rlnk M U, f', n2, a', as1, d', ?_, ?_, r4.2.2.2.1, r4.2.2.2.2.1, FE_t FE_0 r3, fun k hk => (b3 k hk).trans (s3 k hk)⟩
        · refine ⟨oc, ?_⟩
          rw [ec, ← k3, ← k5, ← k13, ← k15]
          exact l1
        · unfold OX10_share
          rw [s2, r2]
          exact ⟨omach x, fun q => absurd q m10, fun _ => ⟨fun q => absurd q hy, fun _ => ⟨fun q => absurd q hz, fun _ => ⟨s1, r1, b1⟩⟩⟩⟩
        · unfold FX9_share
          rw [ec, if_neg m9, if_neg y0, if_neg y2, if_neg t1, if_pos t3, ← k3, ← k5, ← k13, ← k15, e0]
          unfold tC
          dsimp only
          rw [l2]
          rfl
        · unfold FX10_share
          rw [s2, r2]
          dsimp only
          rw [if_neg m10, if_neg hy, if_neg hz, b2]
      · have hz : FX10_isIn z 1 300 = 0 := hz
        have h : z < 1 ∨ (¬ z < 1 ∧ ¬ z ≤ (300 : Int32)) := by
          rcases h with h | ⟨h1, -, h2⟩
          · exact Or.inl h
          · exact Or.inr ⟨h1, h2⟩
        refine ⟨⟨fun q => absurd q m9, fun _ => ⟨fun q => absurd q y0, fun _ => ⟨fun q => absurd q y2, fun _ => ⟨fun _ => trivial, fun q => ⟨fun q2 => ?_, fun _ => trivial⟩⟩⟩⟩⟩, ⟨omach x, fun q => absurd q m10, fun _ => ⟨fun q => absurd q hy, fun _ => ⟨fun _ => trivial, fun q => absurd hz q⟩⟩⟩, -1, X, upd f 0 0, n, a, as, d, ?_, ?_, u3, u13, FE_0, fun _ _ => rfl⟩
        · rcases h with h | ⟨h1, h2⟩
          · exact absurd h q
          · exact absurd q2 h2
        · unfold FX9_share
          rw [if_neg m9, if_neg y0, if_neg y2]
          rcases h with h | ⟨h1, h2⟩
          · rw [if_pos h]
          · rw [if_neg h1, if_neg h2]
        · unfold FX10_share
          dsimp only
          rw [if_neg m10, if_neg hy, if_pos hz]
    · have hy : FX10_isIn y 0 2 = 0 := hy
      have h : y < 0 ∨ (¬ y < 0 ∧ (2 : Int32) < y) := h
      refine ⟨⟨fun q => absurd q m9, fun _ => ⟨fun _ => trivial, fun q => ⟨fun _ => trivial, fun q2 => ?_⟩⟩⟩, ⟨omach x, fun q => absurd q m10, fun _ => ⟨fun _ => trivial, fun q => absurd hy q⟩⟩, -1, X, upd f 0 0, n, a, as, d, ?_, ?_, u3, u13, FE_0, fun _ _ => rfl⟩
      · rcases h with h | ⟨h1, h2⟩
        · exact absurd h q
        · exact absurd h2 q2
      · unfold FX9_share
        rw [if_neg m9]
        rcases h with h | ⟨h1, h2⟩
        · rw [if_pos h]
        · rw [if_neg h1, if_pos h2]
      · unfold FX10_share
        dsimp only
        rw [if_neg m10, if_pos hy]
  · refine ⟨⟨fun _ => trivial, fun q => absurd h9 q⟩, ⟨omach x, fun _ => trivial, fun q => absurd h10 q⟩, -1, X, upd f 0 0, n, a, as, d, ?_, ?_, u3, u13, FE_0, fun _ _ => rfl⟩
    · unfold FX9_share
      rw [if_pos h9]
    · unfold FX10_share
      dsimp only
      rw [if_pos h10]
theorem c_until {x y v z : Int32} (hW : WI J joins W n T) (hT : T + 1806 < 2 ^ 30) (hC : PC J prg op num sndr slnk rcvr rlnk f fop farg joins) (u3 : X 3 0 = 0) (u13 : X 13 0 = 1) : OX9_until x y v z (X 0) (X 1) (X 2) (X 3) (X 4) (X 5) (X 6) (X 7) (X 8) (X 9) (X 10) (X 11) (X 12) (X 13) (X 14) (X 15) (X 16) (X 17) (X 18) (X 19) (X 20) (X 21) (X 22) (W 0) (W 1) (W 2) (W 4) (W 6) (W 7) (W 8) (W 9) (W 10) (W 11) (W 12) (W 14) (W 16) (W 17) (W 18) (W 19) (W 20) (W 21) (W 22) prg op num sndr slnk rcvr rlnk ∧ OX10_until x y v z f fop farg joins n a as d ∧ ∃ (r : Int32) (Y : Nat → mF) (f' n' a' as' d' : mF), FX9_until x y v z (X 0) (X 1) (X 2) (X 3) (X 4) (X 5) (X 6) (X 7) (X 8) (X 9) (X 10) (X 11) (X 12) (X 13) (X 14) (X 15) (X 16) (X 17) (X 18) (X 19) (X 20) (X 21) (X 22) (W 0) (W 1) (W 2) (W 4) (W 6) (W 7) (W 8) (W 9) (W 10) (W 11) (W 12) (W 14) (W 16) (W 17) (W 18) (W 19) (W 20) (W 21) (W 22) prg op num sndr slnk rcvr rlnk = (r, Y 0, Y 1, Y 2, Y 3, Y 4, Y 5, Y 6, Y 7, Y 8, Y 9, Y 10, Y 11, Y 12, Y 13, Y 14, Y 15, Y 16, Y 17, Y 18, Y 19, Y 20, Y 21, Y 22) ∧ FX10_until x y v z f fop farg joins n a as d = (r, f', n', a', as', d') ∧ Y 3 0 = 0 ∧ Y 13 0 = 1 ∧ FE f f' ∧ ∀ k, k < 532 → n' k = n k := by
  have z10 : ¬ (1 : Int32) = 0 := by decide
  rcases mach_c x with hx | ⟨h10, h9⟩
  · obtain ⟨mm, hm, ex, m9, m10⟩ := mach_n hx
    rcases place_c y with ⟨p9, p10, p, hp, ey⟩ | ⟨p9, p10⟩
    · have p9' : ¬ FX9_isPlace y = 0 := fun e => z10 (p9.symm.trans e)
      have p10' : ¬ FX10_isPlace y = 0 := fun e => z10 (p10.symm.trans e)
      rcases inC (C := 300) (by decide) z with ⟨M, hM, ez, t1, t2, hz⟩ | ⟨hz, h⟩
      · have hz : ¬ FX10_isIn z 0 300 = 0 := fun e => z10 (hz.symm.trans e)
        have t3 : z ≤ (300 : Int32) := Int32.not_lt.mp t2
        obtain ⟨U, eU⟩ : ∃ U, U = cW X W := ⟨_, rfl⟩
        have hU : WI J joins U n T := by rw [eU]; exact WI_copy hW u3 u13
        have oc := ocopy_e (U := X) hW.1
        have ec : FX8_copy (X 0) (X 1) (X 2) (X 4) (X 6) (X 7) (X 8) (X 9) (X 10) (X 11) (X 12) (X 14) (X 16) (X 17) (X 18) (X 19) (X 20) (X 21) (X 22) (W 0) (W 1) (W 2) (W 4) (W 6) (W 7) (W 8) (W 9) (W 10) (W 11) (W 12) (W 14) (W 16) (W 17) (W 18) (W 19) (W 20) (W 21) (W 22) = tC U := by rw [eU]; exact copy_e
        have k3 : U 3 = X 3 := by rw [eU]; rfl
        have k5 : U 5 = X 5 := by rw [eU]; rfl
        have k13 : U 13 = X 13 := by rw [eU]; rfl
        have k15 : U 15 = X 15 := by rw [eU]; rfl
        have hC0 : PC J prg op num sndr slnk rcvr rlnk (upd f 0 0) fop farg joins := PC_f hC (pk_un (by decide)) (pk_un (by decide))
        obtain ⟨l1, Y, l2, l3, l4⟩ := l_until9 (A := W) (v := v) ez hM hm ex hp ey M 0 10000 U n f T (by omega) (by omega) hU (by omega) hC
        obtain ⟨r1, k', f', n1, a', d', r2, r3, r4⟩ := l_until10 (v := v) ez hM hm ex hp ey M 0 10000 U n (upd f 0 0) a d T (by omega) (by omega) hU (by omega) hC0
        rw [nI_0] at l1 l2 r1 r2
        obtain ⟨s1, as1, s2, s3⟩ := p_aside (n := n) (as := as)
        obtain ⟨b1, n2, b2, b3⟩ := p_cback (n := n1) (as := as1)
        have eb : FX10_base x = nI (174 * mm) := by
          rw [ex]
          rcases (show mm = 0 ∨ mm = 1 by omega) with rfl | rfl <;> decide
        have ei : (nI (174 * mm) + y).toNatClampNeg = 174 * mm + p := by rw [ey, nI_add, nI_clamp (by omega)]
        have vi : vp_in (nI (174 * mm) + y) 532 := by rw [ey, nI_add]; exact vp_in_nI (by omega) (by decide)
        refine ⟨⟨fun q => absurd q m9, fun _ => ⟨fun q => absurd q p9', fun _ => ⟨fun q => absurd q t1, fun _ => ⟨fun _ => ?_, fun q => absurd t3 q⟩⟩⟩⟩, ?_, unt prg op num sndr slnk rcvr rlnk mm p v M 0 U, Y, f', n2, a', as1, d', ?_, ?_, l3, l4, FE_t FE_0 r4, fun k hk => (b3 k hk).trans (s3 k hk)⟩
        · refine ⟨oc, ?_⟩
          rw [ec, ← k3, ← k5, ← k13, ← k15]
          exact l1
        · unfold OX10_until
          rw [s2, r2, eb]
          exact ⟨omach x, fun q => absurd q m10, fun _ => ⟨fun q => absurd q p10', fun _ => ⟨fun q => absurd q hz, fun _ => ⟨s1, r1, vi, fun _ => b1, fun _ => b1⟩⟩⟩⟩
        · unfold FX9_until
          rw [ec, if_neg m9, if_neg p9', if_neg t1, if_pos t3, ← k3, ← k5, ← k13, ← k15]
          exact l2
        · unfold FX10_until
          rw [s2, r2, eb]
          dsimp only
          rw [if_neg m10, if_neg p10', if_neg hz, ei, b2, ← r3]
          by_cases e : n1 (174 * mm + p) = v
          · rw [if_pos e, if_pos e]
          · rw [if_neg e, if_neg e]
      · have hz : FX10_isIn z 0 300 = 0 := hz
        have h : z < 0 ∨ (¬ z < 0 ∧ ¬ z ≤ (300 : Int32)) := by
          rcases h with h | ⟨h1, h2⟩
          · exact Or.inl h
          · exact Or.inr ⟨h1, Int32.not_le.mpr h2⟩
        refine ⟨⟨fun q => absurd q m9, fun _ => ⟨fun q => absurd q p9', fun _ => ⟨fun _ => trivial, fun q => ⟨fun q2 => ?_, fun _ => trivial⟩⟩⟩⟩, ⟨omach x, fun q => absurd q m10, fun _ => ⟨fun q => absurd q p10', fun _ => ⟨fun _ => trivial, fun q => absurd hz q⟩⟩⟩, -1, X, upd f 0 0, n, a, as, d, ?_, ?_, u3, u13, FE_0, fun _ _ => rfl⟩
        · rcases h with h | ⟨h1, h2⟩
          · exact absurd h q
          · exact absurd q2 h2
        · unfold FX9_until
          rw [if_neg m9, if_neg p9']
          rcases h with h | ⟨h1, h2⟩
          · rw [if_pos h]
          · rw [if_neg h1, if_neg h2]
        · unfold FX10_until
          dsimp only
          rw [if_neg m10, if_neg p10', if_pos hz]
    · refine ⟨⟨fun q => absurd q m9, fun _ => ⟨fun _ => trivial, fun q => absurd p9 q⟩⟩, ⟨omach x, fun q => absurd q m10, fun _ => ⟨fun _ => trivial, fun q => absurd p10 q⟩⟩, -1, X, upd f 0 0, n, a, as, d, ?_, ?_, u3, u13, FE_0, fun _ _ => rfl⟩
      · unfold FX9_until
        rw [if_neg m9, if_pos p9]
      · unfold FX10_until
        dsimp only
        rw [if_neg m10, if_pos p10]
  · refine ⟨⟨fun _ => trivial, fun q => absurd h9 q⟩, ⟨omach x, fun _ => trivial, fun q => absurd h10 q⟩, -1, X, upd f 0 0, n, a, as, d, ?_, ?_, u3, u13, FE_0, fun _ _ => rfl⟩
    · unfold FX9_until
      rw [if_pos h9]
    · unfold FX10_until
      dsimp only
      rw [if_pos h10]
end SHW
