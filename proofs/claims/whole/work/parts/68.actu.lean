/-! PURE: acts: start, tick, undo, on both sides (GENERATED, wip/gen/p/68.py) -/
theorem w_c (x : Int32) : (isWv x ∧ FX9_isW x = 1 ∧ FX10_isIn x 5 95 = 1) ∨ (FX9_isW x = 0 ∧ FX10_isIn x 5 95 = 0) := by
  by_cases h : isWv x
  · exact Or.inl ⟨h, isW9_1 h, isInW_1 h⟩
  · exact Or.inr ⟨isW9_0 h, isInW_0 h⟩
theorem pri_c (x : Int32) : ((x = 0 ∨ x = 1) ∧ ¬ FX9_isPriority x = 0 ∧ ¬ FX10_isIn x 0 1 = 0) ∨ (FX9_isPriority x = 0 ∧ FX10_isIn x 0 1 = 0) := by
  rcases bit_c x with h | ⟨h, -⟩
  · refine Or.inl ⟨h, ?_, ?_⟩ <;> rcases h with rfl | rfl <;> decide
  · refine Or.inr ⟨?_, h⟩
    unfold FX9_isPriority
    rw [if_neg (fun e => by rw [e] at h; exact absurd h (by decide)), if_neg (fun e => by rw [e] at h; exact absurd h (by decide))]
section BGN
variable {n : mF}
/-- a process begins on a machine -/
theorem p_begin {reg mem tz tp tt tb l0 l1 F : mF} {b : Nat} {x q i : Int32} (hb : b = 0 ∨ b = 174) (h45 : F 45 = nI b) (hx : isWv x) (hq : q = 0 ∨ q = 1) (h : RM reg mem tz tp tt tb l0 l1 (fun k => n (b + k))) : OX3_beginProcess x q i reg mem ∧ OX10_lay (x - 1) i F n ∧ ∃ z n1 n2, (z = 0 ∨ z = 1) ∧ FX10_lay (x - 1) i F n = (0, fb F z, n1) ∧ OX10_schedule (2 * x + q) (fb F z) n1 ∧ FX10_schedule (2 * x + q) (fb F z) n1 = (0, fb F z, n2) ∧ RM (FX3_beginProcess x q i reg mem).2.1 (FX3_beginProcess x q i reg mem).2.2 tz tp tt tb l0 l1 (fun k => n2 (b + k)) ∧ ∀ k, (k < b ∨ b + 174 ≤ k) → n2 k = n k := by
  obtain ⟨k, hk2, ek⟩ := wS1 hx
  have hP := (pMk hx hq).1
  obtain ⟨o1, z, hz, o2⟩ := lay_w (F := F) (n := n) (v := i) hb hk2 h45
  have hm := RM_m (x := i) hk2 h
  have e1 : upd n (b + k) i = emb b n (upd (fun k => n (b + k)) k i) := by rw [← emb_upd (by omega), emb_self]
  have H : Hb F b := ⟨h45, hb⟩
  obtain ⟨g', q1, q2, q3, q4, q5, q6, q7⟩ := p_schedz (n := n) hz H hm.2.1 hm.2.2.1 hP
  have ck : (x - 1).toNatClampNeg = k := by rw [ek]; exact nI_clamp (by omega)
  rw [ek]
  refine ⟨⟨by rw [ek]; exact vp_in_nI hk2 (by decide), ?_⟩, o1, z, _, emb b n g', hz, o2, ?_, ?_, ?_, fun k hk => emb_out hk⟩
  · rw [ck]
    exact q3
  · rw [e1]
    exact q2
  · rw [e1]
    exact q1
  · have e2 : FX3_beginProcess x q i reg mem = (0, (FX3_schedule (2 * x + q) reg (upd mem k i)).2.1, (FX3_schedule (2 * x + q) reg (upd mem k i)).2.2) := by
      unfold FX3_beginProcess
      rw [ck]
    rw [e2]
    exact RM_g (g := g') ⟨RRun_c hm.1 (fun j hj => q7 j (by omega)) (fun j a c => q6 j (by omega)), RB0_q hm.2 q4 q5 q7 q6⟩ (fun j hj => emb_at hj)
end BGN
section ACU
variable {W : Nat → mF} {prg op num sndr slnk rcvr rlnk f fop farg joins n a d acts hist : mF} {S : Nat → Nat → mF} {J T : Nat}
def w4s (W : Nat → mF) (a b c d : mF) : Nat → mF := uw (uw (uw (uw W 4 a) 6 b) 14 c) 16 d
theorem w4s_r : w4s W (W 4) (W 6) (W 14) (W 16) = W := by
  funext c
  unfold w4s uw
  split
  · rename_i e
    rw [e]
  · split
    · rename_i e
      rw [e]
    · split
      · rename_i e
        rw [e]
      · split
        · rename_i e
          rw [e]
        · rfl
theorem c_start {x y z i0 : Int32} (h : RH J joins hist S f acts T) (hW : WI J joins W n T) (hC : PC J prg op num sndr slnk rcvr rlnk f fop farg joins) : ∃ i : Nat, i < 8 ∧ hist 1 = nI i ∧ ∀ Z, Z = S i → OX9_start (hist 1) x y z i0 (Z 0) (Z 1) (Z 2) (Z 4) (Z 6) (Z 7) (Z 8) (Z 9) (Z 10) (Z 11) (Z 12) (Z 14) (Z 16) (Z 17) (Z 18) (Z 19) (Z 20) (Z 21) (Z 22) (W 0) (W 1) (W 2) (W 4) (W 6) (W 7) (W 8) (W 9) (W 10) (W 11) (W 12) (W 14) (W 16) (W 17) (W 18) (W 19) (W 20) (W 21) (W 22) prg hist ∧ OX10_start x y z i0 f n acts ∧ ∃ (r : Int32) (C : Nat → mF) (w4 w6 w14 w16 hist' f' n' acts' : mF), FX9_start (hist 1) x y z i0 (Z 0) (Z 1) (Z 2) (Z 4) (Z 6) (Z 7) (Z 8) (Z 9) (Z 10) (Z 11) (Z 12) (Z 14) (Z 16) (Z 17) (Z 18) (Z 19) (Z 20) (Z 21) (Z 22) (W 0) (W 1) (W 2) (W 4) (W 6) (W 7) (W 8) (W 9) (W 10) (W 11) (W 12) (W 14) (W 16) (W 17) (W 18) (W 19) (W 20) (W 21) (W 22) prg hist = (r, C 0, C 1, C 2, C 4, C 6, C 7, C 8, C 9, C 10, C 11, C 12, C 14, C 16, C 17, C 18, C 19, C 20, C 21, C 22, w4, w6, w14, w16, hist') ∧ FX10_start x y z i0 f n acts = (r, f', n', acts') ∧ FA f f' ∧ RH J joins hist' (uS S i C) f' acts' T ∧ WI J joins (w4s W w4 w6 w14 w16) n' T := by
  have z10 : ¬ (1 : Int32) = 0 := by decide
  have z01 : ¬ (0 : Int32) = 1 := by decide
  have h0 : RH J joins hist S (upd f 0 0) acts T := RH_f h (pk_un (by decide))
  obtain ⟨i, hi, hh, o1, o2, f', acts', e1, e2, e3⟩ := p_keep h0 hW
  refine ⟨i, hi, hh, fun Z hZ => ?_⟩
  subst hZ
  have no : FA f (upd f 0 0) := fun k a _ _ _ => pk_un a
  have nR : RH J joins hist (uS S i (S i)) (upd f 0 0) acts T := by rw [uS_r]; exact h0
  have nW : WI J joins (w4s W (W 4) (W 6) (W 14) (W 16)) n T := by rw [w4s_r]; exact hW
  obtain ⟨⟨L, hL, pL, fL, -⟩, -⟩ := hC
  rcases mach_c x with hx | ⟨h10, h9⟩
  · obtain ⟨mm, hm, ex, m9, m10⟩ := mach_n hx
    have vx : vp_in x 2 := jvp2 hm ex
    rcases w_c y with ⟨hy, y9, y10⟩ | ⟨y9, y10⟩
    · have y9 : ¬ FX9_isW y = 0 := fun e => z10 (y9.symm.trans e)
      have y10 : ¬ FX10_isIn y 5 95 = 0 := fun e => z10 (y10.symm.trans e)
      rcases pri_c z with ⟨hz, z9, z10'⟩ | ⟨z9, z10'⟩
      · rcases inPrg (x := i0) hL with ⟨a1, a2, a3, -⟩ | ⟨a1, a2⟩
        · have a1 : ¬ FX10_isIn i0 0 (f 33 - 1) = 0 := by rw [fL, a1]; exact z10
          have a3 : ¬ prg 1 ≤ i0 := by rw [pL]; exact Int32.not_le.mpr a3
          have eb : FX10_base x = nI (174 * mm) := by
            rw [ex]
            rcases (show mm = 0 ∨ mm = 1 by omega) with rfl | rfl <;> decide
          have ei : (nI (174 * mm) + 97).toNatClampNeg = 174 * mm + 97 := (ix (a := 174 * mm) (k := 97) (by omega)).1
          have vi : vp_in (nI (174 * mm) + 97) 532 := (ix (a := 174 * mm) (k := 97) (by omega)).2
          obtain ⟨g1, g2⟩ := RMw_ha (hW.1 mm hm)
          have g1 : n (174 * mm + 97) = W (4 + 10 * mm) 19 := g1
          by_cases hd : W (4 + 10 * mm) 19 = 0
          · have nh : ¬ n (174 * mm + 97) = 1 := by rw [g1, hd]; exact z01
            have fh : FX3_isHalted (W (4 + 10 * mm)) = 0 := if_pos hd
            obtain ⟨b1, b2, zz, n1, n2, b3, b4, b5, b6, b7, b8⟩ := p_begin (F := upd f' 45 (nI (174 * mm))) (i := i0) (q := z) (n := n) (by omega) pk_us hy hz (hW.1 mm hm)
            have o10 : OX10_start x y z i0 f n acts := by
              unfold OX10_start
              rw [eb]
              refine ⟨omach x, fun q => absurd q m10, fun _ => ⟨fun q => absurd q y10, fun _ => ⟨fun q => absurd q z10', fun _ => ⟨fun q => absurd q a1, fun _ => ⟨vi, fun q => absurd (by rw [ei] at q; exact q) nh, fun _ => ⟨o2, ?_⟩⟩⟩⟩⟩⟩
              rw [e1]
              refine ⟨b2, ?_⟩
              dsimp only
              rw [b4]
              exact b5
            have t10 : FX10_start x y z i0 f n acts = (1, fb (upd f' 45 (nI (174 * mm))) zz, n2, acts') := by
              unfold FX10_start
              dsimp only
              rw [if_neg m10, if_neg y10, if_neg z10', if_neg a1, eb, ei, if_neg nh, e1]
              dsimp only
              rw [b4]
              dsimp only
              rw [b6]
            have hE : FA f (fb (upd f' 45 (nI (174 * mm))) zz) := fun k p1 p2 p3 p4 => (fb_ne p4).trans ((pk_un p3).trans ((e2 k p2).trans (pk_un p1)))
            have hR : RH J joins (hK hist) (uS S i (cW (S i) W)) (fb (upd f' 45 (nI (174 * mm))) zz) acts' T := RH_f e3 ((fb_ne (by decide)).trans (pk_un (by decide)))
            obtain ⟨w1, w2, w3, w4, w5, w6⟩ := hW
            rcases (show mm = 0 ∨ mm = 1 by omega) with rfl | rfl
            · have x0 : x = 0 := nI0 ex
              have fh : FX3_isHalted (W 4) = 0 := fh
              refine ⟨⟨fun q => absurd q m9, fun _ => ⟨fun q => absurd q y9, fun _ => ⟨fun q => absurd q z9, fun _ => ⟨fun q => absurd q a2, fun _ => ⟨fun q => absurd q a3, fun _ => ⟨vx, fun _ => ⟨fun _ => ⟨o1, vx, fun _ => b1, fun q => absurd x0 q⟩, fun q => absurd fh q⟩, fun q => absurd x0 q⟩⟩⟩⟩⟩⟩, o10, 1, cW (S i) W, (FX3_beginProcess y z i0 (W 4) (W 6)).2.1, (FX3_beginProcess y z i0 (W 4) (W 6)).2.2, W 14, W 16, hK hist, _, n2, acts', ?_, t10, hE, hR, ⟨fun m hm' => ?_, RD_n w2 (fun k a b => b8 k (by omega)), (b8 348 (by omega)).trans w3, w4, w5, RI_q w6 (fun m i hm' hi' => ?_)⟩⟩
              · unfold FX9_start
                dsimp only
                rw [if_neg m9, if_neg y9, if_neg z9, if_neg a2, if_neg a3, if_pos x0, if_pos fh, if_pos x0, rem_e]
              · rcases (show m = 0 ∨ m = 1 by omega) with rfl | rfl
                · exact b7
                · exact RMw_g (w1 1 hm') (fun k hk => b8 _ (by omega))
              · rcases (show m = 0 ∨ m = 1 by omega) with rfl | rfl <;> rcases (show i = 0 ∨ i = 1 by omega) with rfl | rfl <;> exact ⟨rfl, rfl⟩
            · have x0 : ¬ x = 0 := nI1 ex
              have fh : FX3_isHalted (W 14) = 0 := fh
              refine ⟨⟨fun q => absurd q m9, fun _ => ⟨fun q => absurd q y9, fun _ => ⟨fun q => absurd q z9, fun _ => ⟨fun q => absurd q a2, fun _ => ⟨fun q => absurd q a3, fun _ => ⟨vx, fun q => absurd q x0, fun _ => ⟨fun _ => ⟨o1, vx, fun q => absurd q x0, fun _ => b1⟩, fun q => absurd fh q⟩⟩⟩⟩⟩⟩⟩, o10, 1, cW (S i) W, W 4, W 6, (FX3_beginProcess y z i0 (W 14) (W 16)).2.1, (FX3_beginProcess y z i0 (W 14) (W 16)).2.2, hK hist, _, n2, acts', ?_, t10, hE, hR, ⟨fun m hm' => ?_, RD_n w2 (fun k a b => b8 k (by omega)), (b8 348 (by omega)).trans w3, w4, w5, RI_q w6 (fun m i hm' hi' => ?_)⟩⟩
              · unfold FX9_start
                dsimp only
                rw [if_neg m9, if_neg y9, if_neg z9, if_neg a2, if_neg a3, if_neg x0, if_pos fh, if_neg x0, rem_e]
              · rcases (show m = 0 ∨ m = 1 by omega) with rfl | rfl
                · exact RMw_g (w1 0 hm') (fun k hk => b8 _ (by omega))
                · exact b7
              · rcases (show m = 0 ∨ m = 1 by omega) with rfl | rfl <;> rcases (show i = 0 ∨ i = 1 by omega) with rfl | rfl <;> exact ⟨rfl, rfl⟩
          · have nh : n (174 * mm + 97) = 1 := g1.trans (g2.resolve_left hd)
            have fh : ¬ FX3_isHalted (W (4 + 10 * mm)) = 0 := fun q => z10 ((if_neg hd).symm.trans q)
            have o10 : OX10_start x y z i0 f n acts := by
              unfold OX10_start
              rw [eb]
              exact ⟨omach x, fun q => absurd q m10, fun _ => ⟨fun q => absurd q y10, fun _ => ⟨fun q => absurd q z10', fun _ => ⟨fun q => absurd q a1, fun _ => ⟨vi, fun _ => trivial, fun q => absurd (by rw [ei]; exact nh) q⟩⟩⟩⟩⟩
            have t10 : FX10_start x y z i0 f n acts = (0, upd f 0 0, n, acts) := by
              unfold FX10_start
              dsimp only
              rw [if_neg m10, if_neg y10, if_neg z10', if_neg a1, eb, ei, if_pos nh]
            rcases (show mm = 0 ∨ mm = 1 by omega) with rfl | rfl
            · have x0 : x = 0 := nI0 ex
              have fh : ¬ FX3_isHalted (W 4) = 0 := fh
              refine ⟨⟨fun q => absurd q m9, fun _ => ⟨fun q => absurd q y9, fun _ => ⟨fun q => absurd q z9, fun _ => ⟨fun q => absurd q a2, fun _ => ⟨fun q => absurd q a3, fun _ => ⟨vx, fun _ => ⟨fun q => absurd q fh, fun _ => trivial⟩, fun q => absurd x0 q⟩⟩⟩⟩⟩⟩, o10, 0, S i, W 4, W 6, W 14, W 16, hist, _, n, acts, ?_, t10, no, nR, nW⟩
              unfold FX9_start
              dsimp only
              rw [if_neg m9, if_neg y9, if_neg z9, if_neg a2, if_neg a3, if_pos x0, if_neg fh]
            · have x0 : ¬ x = 0 := nI1 ex
              have fh : ¬ FX3_isHalted (W 14) = 0 := fh
              refine ⟨⟨fun q => absurd q m9, fun _ => ⟨fun q => absurd q y9, fun _ => ⟨fun q => absurd q z9, fun _ => ⟨fun q => absurd q a2, fun _ => ⟨fun q => absurd q a3, fun _ => ⟨vx, fun q => absurd q x0, fun _ => ⟨fun q => absurd q fh, fun _ => trivial⟩⟩⟩⟩⟩⟩⟩, o10, 0, S i, W 4, W 6, W 14, W 16, hist, _, n, acts, ?_, t10, no, nR, nW⟩
              unfold FX9_start
              dsimp only
              rw [if_neg m9, if_neg y9, if_neg z9, if_neg a2, if_neg a3, if_neg x0, if_neg fh]
        · have a1 : FX10_isIn i0 0 (f 33 - 1) = 0 := by rw [fL, a1]
          have a2 : i0 < 0 ∨ (¬ i0 < 0 ∧ prg 1 ≤ i0) := by
            rcases a2 with q | ⟨q1, q2⟩
            · exact Or.inl q
            · exact Or.inr ⟨q1, by rw [pL]; exact Int32.not_lt.mp q2⟩
          refine ⟨⟨fun q => absurd q m9, fun _ => ⟨fun q => absurd q y9, fun _ => ⟨fun q => absurd q z9, fun _ => ⟨fun _ => trivial, fun q => ⟨fun _ => trivial, fun q2 => ?_⟩⟩⟩⟩⟩, ⟨omach x, fun q => absurd q m10, fun _ => ⟨fun q => absurd q y10, fun _ => ⟨fun q => absurd q z10', fun _ => ⟨fun _ => trivial, fun q => absurd a1 q⟩⟩⟩⟩, 0, S i, W 4, W 6, W 14, W 16, hist, _, n, acts, ?_, ?_, no, nR, nW⟩
          · rcases a2 with q3 | ⟨q3, q4⟩
            · exact absurd q3 q
            · exact absurd q4 q2
          · unfold FX9_start
            dsimp only
            rw [if_neg m9, if_neg y9, if_neg z9]
            rcases a2 with q3 | ⟨q3, q4⟩
            · rw [if_pos q3]
            · rw [if_neg q3, if_pos q4]
          · unfold FX10_start
            dsimp only
            rw [if_neg m10, if_neg y10, if_neg z10', if_pos a1]
      · refine ⟨⟨fun q => absurd q m9, fun _ => ⟨fun q => absurd q y9, fun _ => ⟨fun _ => trivial, fun q => absurd z9 q⟩⟩⟩, ⟨omach x, fun q => absurd q m10, fun _ => ⟨fun q => absurd q y10, fun _ => ⟨fun _ => trivial, fun q => absurd z10' q⟩⟩⟩, 0, S i, W 4, W 6, W 14, W 16, hist, _, n, acts, ?_, ?_, no, nR, nW⟩
        · unfold FX9_start
          dsimp only
          rw [if_neg m9, if_neg y9, if_pos z9]
        · unfold FX10_start
          dsimp only
          rw [if_neg m10, if_neg y10, if_pos z10']
    · refine ⟨⟨fun q => absurd q m9, fun _ => ⟨fun _ => trivial, fun q => absurd y9 q⟩⟩, ⟨omach x, fun q => absurd q m10, fun _ => ⟨fun _ => trivial, fun q => absurd y10 q⟩⟩, 0, S i, W 4, W 6, W 14, W 16, hist, _, n, acts, ?_, ?_, no, nR, nW⟩
      · unfold FX9_start
        dsimp only
        rw [if_neg m9, if_pos y9]
      · unfold FX10_start
        dsimp only
        rw [if_neg m10, if_pos y10]
  · refine ⟨⟨fun _ => trivial, fun q => absurd h9 q⟩, ⟨omach x, fun _ => trivial, fun q => absurd h10 q⟩, 0, S i, W 4, W 6, W 14, W 16, hist, _, n, acts, ?_, ?_, no, nR, nW⟩
    · unfold FX9_start
      dsimp only
      rw [if_pos h9]
    · unfold FX10_start
      dsimp only
      rw [if_pos h10]
theorem c_tick {x : Int32} (h : RH J joins hist S f acts T) (hW : WI J joins W n T) (hT : T + 1800 < 2 ^ 30) (hC : PC J prg op num sndr slnk rcvr rlnk f fop farg joins) : ∃ i : Nat, i < 8 ∧ hist 1 = nI i ∧ ∀ Z, Z = S i → OX9_tick (hist 1) x (Z 0) (Z 1) (Z 2) (Z 4) (Z 6) (Z 7) (Z 8) (Z 9) (Z 10) (Z 11) (Z 12) (Z 14) (Z 16) (Z 17) (Z 18) (Z 19) (Z 20) (Z 21) (Z 22) (W 0) (W 1) (W 2) (W 3) (W 4) (W 5) (W 6) (W 7) (W 8) (W 9) (W 10) (W 11) (W 12) (W 13) (W 14) (W 15) (W 16) (W 17) (W 18) (W 19) (W 20) (W 21) (W 22) prg op num sndr slnk rcvr rlnk hist ∧ OX10_tick x f fop farg joins n a acts d ∧ ∃ (r : Int32) (C Y : Nat → mF) (hist' f' n' a' acts' d' : mF), FX9_tick (hist 1) x (Z 0) (Z 1) (Z 2) (Z 4) (Z 6) (Z 7) (Z 8) (Z 9) (Z 10) (Z 11) (Z 12) (Z 14) (Z 16) (Z 17) (Z 18) (Z 19) (Z 20) (Z 21) (Z 22) (W 0) (W 1) (W 2) (W 3) (W 4) (W 5) (W 6) (W 7) (W 8) (W 9) (W 10) (W 11) (W 12) (W 13) (W 14) (W 15) (W 16) (W 17) (W 18) (W 19) (W 20) (W 21) (W 22) prg op num sndr slnk rcvr rlnk hist = (r, C 0, C 1, C 2, C 4, C 6, C 7, C 8, C 9, C 10, C 11, C 12, C 14, C 16, C 17, C 18, C 19, C 20, C 21, C 22, Y 1, Y 2, Y 3, Y 4, Y 5, Y 6, Y 7, Y 8, Y 9, Y 10, Y 11, Y 12, Y 13, Y 14, Y 15, Y 16, Y 17, Y 18, Y 19, Y 20, Y 21, Y 22, hist') ∧ FX10_tick x f fop farg joins n a acts d = (r, f', n', a', acts', d') ∧ FA f f' ∧ RH J joins hist' (uS S i C) f' acts' (T + 1800) ∧ WI J joins Y n' (T + 1800) ∧ Y 0 = W 0 := by
  have z10 : ¬ (1 : Int32) = 0 := by decide
  have h0 : RH J joins hist S (upd f 0 0) acts T := RH_f h (pk_un (by decide))
  obtain ⟨i, hi, hh, o1, o2, f1, acts', e1, e2, e3⟩ := p_keep h0 hW
  refine ⟨i, hi, hh, fun Z hZ => ?_⟩
  subst hZ
  rcases inC1 (C := 300) (by decide) x with ⟨M, hM1, hM, ex, t1, t2, t3, hx⟩ | ⟨hx, hh2⟩
  · have hx : ¬ FX10_isIn x 1 300 = 0 := fun e => z10 (hx.symm.trans e)
    have t3 : x ≤ (300 : Int32) := t3
    have hC1 : PC J prg op num sndr slnk rcvr rlnk f1 fop farg joins := PC_f hC ((e2 33 (by decide)).trans (pk_un (by decide))) ((e2 35 (by decide)).trans (pk_un (by decide)))
    obtain ⟨l1, l2⟩ := l_tick9 (y := W 1 1) ex hM M 0 10000 W n f T (by omega) (by omega) hW (by omega) hC
    obtain ⟨r1, f', n', a', d', r2, r3, r4, r5⟩ := l_tick10 (y := n 350) ex hM M 0 10000 W n f1 a d T (by omega) (by omega) hW (by omega) hC1
    rw [nI_0] at l1 l2 r1 r2
    refine ⟨⟨fun q => absurd q t1, fun _ => ⟨fun _ => ⟨o1, l1⟩, fun q => absurd t3 q⟩⟩, ?_, seq prg op num sndr slnk rcvr rlnk M W 1 1 - W 1 1, cW (S i) W, seq prg op num sndr slnk rcvr rlnk M W, hK hist, f', n', a', acts', d', ?_, ?_, fun k p1 p2 p3 p4 => (r4 k p3 p4).trans ((e2 k p2).trans (pk_un p1)), RH_T (RH_f e3 (r4 44 (by decide) (by decide))) (by omega), WI_T r5 (by omega), seq_0 M W⟩
    · unfold OX10_tick
      rw [e1]
      exact ⟨fun q => absurd q hx, fun _ => ⟨o2, r1⟩⟩
    · unfold FX9_tick
      rw [if_neg t1, if_pos t3, rem_e, l2]
      rfl
    · unfold FX10_tick
      rw [e1]
      dsimp only
      rw [if_neg hx, r2]
      dsimp only
      rw [r5.2.1.2.1, hW.2.1.2.1]
  · have hx : FX10_isIn x 1 300 = 0 := hx
    have hx2 : x < 1 ∨ (¬ x < 1 ∧ ¬ x ≤ (300 : Int32)) := by
      rcases hh2 with q | ⟨q1, -, q2⟩
      · exact Or.inl q
      · exact Or.inr ⟨q1, q2⟩
    refine ⟨⟨fun _ => trivial, fun q => ⟨fun q2 => ?_, fun _ => trivial⟩⟩, ⟨fun _ => trivial, fun q => absurd hx q⟩, -1, S i, W, hist, upd f 0 0, n, a, acts, d, ?_, ?_, fun k a _ _ _ => pk_un a, by rw [uS_r]; exact RH_T h0 (by omega), WI_T hW (by omega), rfl⟩
    · rcases hx2 with q3 | ⟨q3, q4⟩
      · exact absurd q3 q
      · exact absurd q2 q4
    · unfold FX9_tick
      rcases hx2 with q3 | ⟨q3, q4⟩
      · rw [if_pos q3]
      · rw [if_neg q3, if_neg q4]
    · unfold FX10_tick
      dsimp only
      rw [if_pos hx]
theorem c_undo (h : RH J joins hist S f acts T) (hW : WI J joins W n T) : ∃ i : Nat, i < 8 ∧ hist 1 + 8 - 1 - (hist 1 + 8 - 1) / 8 * 8 = nI i ∧ ∀ Z, Z = S i → OX9_undo (nI i) (W 0) (W 1) (W 2) (W 4) (W 6) (W 7) (W 8) (W 9) (W 10) (W 11) (W 12) (W 14) (W 16) (W 17) (W 18) (W 19) (W 20) (W 21) (W 22) (Z 0) (Z 1) (Z 2) (Z 4) (Z 6) (Z 7) (Z 8) (Z 9) (Z 10) (Z 11) (Z 12) (Z 14) (Z 16) (Z 17) (Z 18) (Z 19) (Z 20) (Z 21) (Z 22) hist ∧ OX10_undo f n acts ∧ ∃ (r : Int32) (C : Nat → mF) (hist' f' n' : mF), FX9_undo (nI i) (W 0) (W 1) (W 2) (W 4) (W 6) (W 7) (W 8) (W 9) (W 10) (W 11) (W 12) (W 14) (W 16) (W 17) (W 18) (W 19) (W 20) (W 21) (W 22) (Z 0) (Z 1) (Z 2) (Z 4) (Z 6) (Z 7) (Z 8) (Z 9) (Z 10) (Z 11) (Z 12) (Z 14) (Z 16) (Z 17) (Z 18) (Z 19) (Z 20) (Z 21) (Z 22) hist = (r, C 0, C 1, C 2, C 4, C 6, C 7, C 8, C 9, C 10, C 11, C 12, C 14, C 16, C 17, C 18, C 19, C 20, C 21, C 22, hist') ∧ FX10_undo f n acts = (r, f', n') ∧ FA f f' ∧ RH J joins hist' S f' acts T ∧ WI J joins C n' T ∧ C 3 = W 3 ∧ C 13 = W 13 ∧ C 5 = W 5 ∧ C 15 = W 15 := by
  obtain ⟨u, x, hu, hx, h0, h1, h44, hS, hA⟩ := h
  have e1 : ∀ x, x < 8 → nI x + 8 - 1 - (nI x + 8 - 1) / 8 * 8 = nI ((x + 7) % 8) := by decide +kernel
  have hi : hist 1 + 8 - 1 - (hist 1 + 8 - 1) / 8 * 8 = nI ((x + 7) % 8) := by rw [h1]; exact e1 x hx
  refine ⟨(x + 7) % 8, Nat.mod_lt _ (by decide), hi, fun Z hZ => ?_⟩
  rcases Nat.eq_zero_or_pos u with q | q
  · subst q
    have c0 : hist 0 = 0 := h0
    have c1 : f 44 = 0 := h44
    refine ⟨⟨fun _ => trivial, fun z => absurd c0 z⟩, ⟨fun _ => trivial, fun z => absurd c1 z⟩, -1, W, hist, upd f 0 0, n, ?_, ?_, fun k a _ _ _ => pk_un a, ⟨0, x, hu, hx, h0, h1, (pk_un (by decide)).trans h44, hS, hA⟩, hW, rfl, rfl, rfl, rfl⟩
    · unfold FX9_undo FX1_recall
      rw [if_pos c0]
    · unfold FX10_undo
      rw [if_pos c1]
  · have c0 : ¬ hist 0 = 0 := by rw [h0]; exact nI_ne0 q (by omega)
    have c1 : ¬ f 44 = 0 := by rw [h44]; exact nI_ne0 q (by omega)
    have es : nI u - 1 = nI (u - 1) := nI_sub (a := u) (c := 1) (by omega)
    have hB := hA (u - 1) (by omega)
    have ei : (x + 8 - u + (u - 1)) % 8 = (x + 7) % 8 := by omega
    rw [ei, ← hZ] at hB
    have oc := ocopy_e (U := W) hB.1
    have t44 : upd (upd f 0 0) 44 (f 44 - 1) 44 = nI (u - 1) := by rw [pk_us, h44, es]
    obtain ⟨q1, q2⟩ := cp_undo (acts := acts) (show u - 1 < 8 by omega) t44 532 0 10000 n (by decide) (by decide)
    rw [nI_0] at q1 q2
    refine ⟨⟨fun z => absurd z c0, fun _ => ⟨hi, vp_in_nI (Nat.mod_lt _ (by decide)) (by decide), oc⟩⟩, ⟨fun z => absurd z c1, fun _ => q1⟩, hist 0 - 1, cW W Z, upd (upd hist 1 (hist 1 + 8 - 1 - (hist 1 + 8 - 1) / 8 * 8)) 0 (hist 0 - 1), upd (upd f 0 0) 44 (f 44 - 1), (fun k => if 0 ≤ k ∧ k < 532 then acts (532 * (u - 1) + k) else n k), ?_, ?_, fun k a b _ _ => (pk_un b).trans (pk_un a), ⟨u - 1, (x + 7) % 8, by omega, Nat.mod_lt _ (by decide), by rw [pk_us, h0, es], by rw [pk_un (by decide), pk_us, hi], t44, hS, fun j hj => ?_⟩, WI_n (WI_copy hB hW.2.2.2.1 hW.2.2.2.2.1) (fun k hk => if_pos ⟨Nat.zero_le _, hk⟩), rfl, rfl, rfl, rfl⟩
    · unfold FX9_undo FX1_recall
      rw [if_neg c0]
      rfl
    · unfold FX10_undo
      rw [if_neg c1, q2]
      dsimp only
      rw [h44, h0]
    · have ej : ((x + 7) % 8 + 8 - (u - 1) + j) % 8 = (x + 8 - u + j) % 8 := by omega
      rw [ej]
      exact hA j (by omega)
end ACU
