/-! PURE: acts: slice, poke, start, on both sides (GENERATED, wip/gen/p/67.py) -/
section SCZ
variable {f n g reg mem tz tp tt tb l0 l1 : mF} {b : Nat} {z : Int32}
theorem needs_z (hz : z = 0 ∨ z = 1) {x : Int32} (h : ¬ x = 0) : FX10_needs x (fb f z) = (0, fb f z) := by
  rcases hz with rfl | rfl
  · exact needs_ok h
  · exact needs_1
theorem lay_z (hz : z = 0 ∨ z = 1) (H : Hb f b) {x v : Int32} (h : isPl x) : FX10_lay x v (fb f z) (emb b n g) = (0, fb f z, emb b n (upd g x.toNatClampNeg v)) := by
  obtain ⟨h1, h2⟩ := pl_cl h
  simp only [FX10_lay, isPlace10_1 h, needs_z hz (show ¬ (1 : Int32) = 0 by decide), if_neg (show ¬ (1 : Int32) = 0 by decide)]
  rw [H.ad (k := x.toNatClampNeg) (by omega) h2, emb_upd (by omega)]
theorem p_schedz (hz : z = 0 ∨ z = 1) (H : Hb f b) (hm : RMem mem g) (hq : RQ reg g) {p : Int32} (hp : isP p) : ∃ g', FX10_schedule p (fb f z) (emb b n g) = (0, fb f z, emb b n g') ∧ OX10_schedule p (fb f z) (emb b n g) ∧ OX3_schedule p reg mem ∧ RMem (FX3_schedule p reg mem).2.2 g' ∧ RQ (FX3_schedule p reg mem).2.1 g' ∧ (∀ k, k = 96 ∨ k = 97 ∨ 102 ≤ k → g' k = g k) ∧ ∀ k, k < 14 ∨ 18 ≤ k → (FX3_schedule p reg mem).2.1 k = reg k := by
  obtain ⟨q1, q2, q3, q4⟩ := hq
  have a1 : (98 : Int32) + 0 = 98 := by decide
  have a2 : (98 : Int32) + 1 = 99 := by decide
  have a3 : (100 : Int32) + 0 = 100 := by decide
  have a4 : (100 : Int32) + 1 = 101 := by decide
  have a5 : ((14 : Int32) + 0).toNatClampNeg = 14 := by decide
  have a6 : ((14 : Int32) + 1).toNatClampNeg = 15 := by decide
  have a7 : ((16 : Int32) + 0).toNatClampNeg = 16 := by decide
  have a8 : ((16 : Int32) + 1).toNatClampNeg = 17 := by decide
  have v1 : vp_in ((14 : Int32) + 0) 20 := by rw [show (14 : Int32) + 0 = nI (14 + 0) by decide]; exact vp_in_nI (by decide) (by decide)
  have v2 : vp_in ((14 : Int32) + 1) 20 := by rw [show (14 : Int32) + 1 = nI (14 + 1) by decide]; exact vp_in_nI (by decide) (by decide)
  have v3 : vp_in ((16 : Int32) + 0) 20 := by rw [show (16 : Int32) + 0 = nI (16 + 0) by decide]; exact vp_in_nI (by decide) (by decide)
  have v4 : vp_in ((16 : Int32) + 1) 20 := by rw [show (16 : Int32) + 1 = nI (16 + 1) by decide]; exact vp_in_nI (by decide) (by decide)
  have hnn := pNN hp
  rcases pQ hp with e | e
  · by_cases c : reg 14 = -1
    · refine ⟨upd (upd g 98 p) 100 p, ?_, ?_, ?_, ?_, ?_, ?_, ?_⟩
      · simp only [FX10_schedule, isProc10_1 hp, needs_z hz one0, if_neg one0, e, a1, a2, a3, a4, g98 H, q1, c, if_true, s98 H, s100 H]
      · simp only [OX10_schedule, oisP10, isProc10_1 hp, needs_z hz one0, e, a1, a2, a3, a4, og98 H, os98 H, os100 H, g98 H, q1, c, true_and, and_true, implies_true, not_true_eq_false, false_implies, one0, not_false_eq_true]
      · simp only [OX3_schedule, e, a5, a6, a7, a8, v1, v2, v3, v4, c, true_and, and_true, implies_true, not_true_eq_false, false_implies]
      · simp only [FX3_schedule, e, a5, a6, a7, a8, c, if_true]
        exact RMem_c hm (fun k hk => by rw [pk_un (by omega), pk_un (by omega)])
      · simp only [FX3_schedule, e, a5, a6, a7, a8, c, if_true]
        refine ⟨?_, ?_, ?_, ?_⟩ <;> simp only [upd_at]
        all_goals first | assumption | exact fun _ => ⟨rfl, hp⟩ | rfl
      · intro k hk
        rw [pk_un (by omega), pk_un (by omega)]
      · simp only [FX3_schedule, e, a5, a6, a7, a8, c, if_true]
        intro k hk
        rw [pk_un (by omega), pk_un (by omega)]
    · obtain ⟨b1, b2⟩ := q3 c
      have hpl := wS2 (pW b2)
      obtain ⟨c1, c2⟩ := pl_cl hpl
      have c' : ¬ g 98 = -1 := by rw [q1]; exact c
      refine ⟨upd (upd g (reg 16 / 2 - 2).toNatClampNeg p) 100 p, ?_, ?_, ?_, ?_, ?_, ?_, ?_⟩
      · simp only [FX10_schedule, isProc10_1 hp, needs_z hz one0, if_neg one0, e, a1, a2, a3, a4, g98 H, g100 H, if_neg c', b1, lay_z hz H hpl, s100 H]
      · simp only [OX10_schedule, oisP10, isProc10_1 hp, needs_z hz one0, e, a1, a2, a3, a4, og98 H, og100 H, os100 H, g98 H, g100 H, b1, lay_z hz H hpl, olay H hz, c', true_and, and_true, implies_true, not_true_eq_false, false_implies, one0, not_false_eq_true]
      · simp only [OX3_schedule, e, a5, a6, a7, a8, v1, v2, v3, v4, c, isProc9_1 b2, one0, pl_vp hpl, true_and, and_true, implies_true, not_true_eq_false, not_false_eq_true, false_implies]
      · simp only [FX3_schedule, e, a5, a6, a7, a8, if_neg c, isProc9_1 b2, if_neg one0]
        exact RMem_c (RMem_u hm) (fun k hk => pk_un (by omega))
      · simp only [FX3_schedule, e, a5, a6, a7, a8, if_neg c, isProc9_1 b2, if_neg one0]
        have c3 : ∀ j, 96 ≤ j → ¬ j = (reg 16 / 2 - 2).toNatClampNeg := fun j hj => by omega
        refine ⟨?_, ?_, ?_, ?_⟩ <;> simp only [upd_at, if_neg (c3 98 (by decide)), if_neg (c3 99 (by decide)), if_neg (c3 100 (by decide)), if_neg (c3 101 (by decide))]
        all_goals first | assumption | exact fun _ => ⟨rfl, hp⟩ | rfl
      · intro k hk
        rw [pk_un (by omega), pk_un (by omega)]
      · simp only [FX3_schedule, e, a5, a6, a7, a8, if_neg c, isProc9_1 b2, if_neg one0]
        intro k hk
        rw [pk_un (by omega)]
  · by_cases c : reg 15 = -1
    · refine ⟨upd (upd g 99 p) 101 p, ?_, ?_, ?_, ?_, ?_, ?_, ?_⟩
      · simp only [FX10_schedule, isProc10_1 hp, needs_z hz one0, if_neg one0, e, a1, a2, a3, a4, g99 H, q2, c, if_true, s99 H, s101 H]
      · simp only [OX10_schedule, oisP10, isProc10_1 hp, needs_z hz one0, e, a1, a2, a3, a4, og99 H, os99 H, os101 H, g99 H, q2, c, true_and, and_true, implies_true, not_true_eq_false, false_implies, one0, not_false_eq_true]
      · simp only [OX3_schedule, e, a5, a6, a7, a8, v1, v2, v3, v4, c, true_and, and_true, implies_true, not_true_eq_false, false_implies]
      · simp only [FX3_schedule, e, a5, a6, a7, a8, c, if_true]
        exact RMem_c hm (fun k hk => by rw [pk_un (by omega), pk_un (by omega)])
      · simp only [FX3_schedule, e, a5, a6, a7, a8, c, if_true]
        refine ⟨?_, ?_, ?_, ?_⟩ <;> simp only [upd_at]
        all_goals first | assumption | exact fun _ => ⟨rfl, hp⟩ | rfl
      · intro k hk
        rw [pk_un (by omega), pk_un (by omega)]
      · simp only [FX3_schedule, e, a5, a6, a7, a8, c, if_true]
        intro k hk
        rw [pk_un (by omega), pk_un (by omega)]
    · obtain ⟨b1, b2⟩ := q4 c
      have hpl := wS2 (pW b2)
      obtain ⟨c1, c2⟩ := pl_cl hpl
      have c' : ¬ g 99 = -1 := by rw [q2]; exact c
      refine ⟨upd (upd g (reg 17 / 2 - 2).toNatClampNeg p) 101 p, ?_, ?_, ?_, ?_, ?_, ?_, ?_⟩
      · simp only [FX10_schedule, isProc10_1 hp, needs_z hz one0, if_neg one0, e, a1, a2, a3, a4, g99 H, g101 H, if_neg c', b1, lay_z hz H hpl, s101 H]
      · simp only [OX10_schedule, oisP10, isProc10_1 hp, needs_z hz one0, e, a1, a2, a3, a4, og99 H, og101 H, os101 H, g99 H, g101 H, b1, lay_z hz H hpl, olay H hz, c', true_and, and_true, implies_true, not_true_eq_false, false_implies, one0, not_false_eq_true]
      · simp only [OX3_schedule, e, a5, a6, a7, a8, v1, v2, v3, v4, c, isProc9_1 b2, one0, pl_vp hpl, true_and, and_true, implies_true, not_true_eq_false, not_false_eq_true, false_implies]
      · simp only [FX3_schedule, e, a5, a6, a7, a8, if_neg c, isProc9_1 b2, if_neg one0]
        exact RMem_c (RMem_u hm) (fun k hk => pk_un (by omega))
      · simp only [FX3_schedule, e, a5, a6, a7, a8, if_neg c, isProc9_1 b2, if_neg one0]
        have c3 : ∀ j, 96 ≤ j → ¬ j = (reg 17 / 2 - 2).toNatClampNeg := fun j hj => by omega
        refine ⟨?_, ?_, ?_, ?_⟩ <;> simp only [upd_at, if_neg (c3 98 (by decide)), if_neg (c3 99 (by decide)), if_neg (c3 100 (by decide)), if_neg (c3 101 (by decide))]
        all_goals first | assumption | exact fun _ => ⟨rfl, hp⟩ | rfl
      · intro k hk
        rw [pk_un (by omega), pk_un (by omega)]
      · simp only [FX3_schedule, e, a5, a6, a7, a8, if_neg c, isProc9_1 b2, if_neg one0]
        intro k hk
        rw [pk_un (by omega)]

end SCZ
/-- a word is laid, whatever the flag: the flag is 0 or 1 then -/
theorem lay_w {F n : mF} {b k : Nat} {v : Int32} (hb : b = 0 ∨ b = 174) (hk : k < 96) (h45 : F 45 = nI b) : OX10_lay (nI k) v F n ∧ ∃ z : Int32, (z = 0 ∨ z = 1) ∧ FX10_lay (nI k) v F n = (0, fb F z, upd n (b + k) v) := by
  have z10 : ¬ (1 : Int32) = 0 := by decide
  have hp : FX10_isPlace (nI k) = 1 := isPlace10_1 ⟨k, hk, rfl⟩
  have key : ∃ z : Int32, (z = 0 ∨ z = 1) ∧ FX10_needs 1 F = (0, fb F z) := by
    unfold FX10_needs
    by_cases c : F 46 = 0
    · rw [if_pos c, if_neg z10]
      exact ⟨0, Or.inl rfl, rfl⟩
    · rw [if_neg c]
      exact ⟨1, Or.inr rfl, rfl⟩
  obtain ⟨z, hz, e⟩ := key
  have e45 : fb F z 45 + nI k = nI (b + k) := by rw [fb_ne (by decide), h45, nI_add]
  constructor
  · unfold OX10_lay
    rw [hp]
    dsimp only
    rw [e]
    refine ⟨fun q => absurd q z10, fun _ => ?_⟩
    show vp_in (fb F z 45 + nI k) 532
    rw [e45]
    exact vp_in_nI (by omega) (by decide)
  · refine ⟨z, hz, ?_⟩
    unfold FX10_lay
    rw [hp]
    dsimp only
    rw [e]
    dsimp only
    rw [if_neg z10, e45, nI_clamp (by omega)]
section ACT
variable {W Z : Nat → mF} {joins n f acts hist prg : mF} {S : Nat → Nat → mF} {J T : Nat}
theorem RM_m {reg mem tz tp tt tb l0 l1 g : mF} {k : Nat} {x : Int32} (hk : k < 96) (h : RM reg mem tz tp tt tb l0 l1 g) : RM reg (upd mem k x) tz tp tt tb l0 l1 (upd g k x) := ⟨RRun_c h.1 (fun _ _ => rfl) (fun j a b => pk_un (by omega)), RB0_m hk h.2⟩
theorem c_slice {x : Int32} (h : RH J joins hist S f acts T) (hW : WI J joins W n T) : ∃ i : Nat, i < 8 ∧ hist 1 = nI i ∧ ∀ Z, Z = S i → OX9_slice (hist 1) x (Z 0) (Z 1) (Z 2) (Z 4) (Z 6) (Z 7) (Z 8) (Z 9) (Z 10) (Z 11) (Z 12) (Z 14) (Z 16) (Z 17) (Z 18) (Z 19) (Z 20) (Z 21) (Z 22) (W 0) (W 1) (W 2) (W 4) (W 6) (W 7) (W 8) (W 9) (W 10) (W 11) (W 12) (W 14) (W 16) (W 17) (W 18) (W 19) (W 20) (W 21) (W 22) hist ∧ OX10_slice x f n acts ∧ ∃ (v : Int32) (C : Nat → mF) (w0 hist' f' n' acts' : mF), FX9_slice (hist 1) x (Z 0) (Z 1) (Z 2) (Z 4) (Z 6) (Z 7) (Z 8) (Z 9) (Z 10) (Z 11) (Z 12) (Z 14) (Z 16) (Z 17) (Z 18) (Z 19) (Z 20) (Z 21) (Z 22) (W 0) (W 1) (W 2) (W 4) (W 6) (W 7) (W 8) (W 9) (W 10) (W 11) (W 12) (W 14) (W 16) (W 17) (W 18) (W 19) (W 20) (W 21) (W 22) hist = (v, C 0, C 1, C 2, C 4, C 6, C 7, C 8, C 9, C 10, C 11, C 12, C 14, C 16, C 17, C 18, C 19, C 20, C 21, C 22, w0, hist') ∧ FX10_slice x f n acts = (v, f', n', acts') ∧ FA f f' ∧ RH J joins hist' (uS S i C) f' acts' T ∧ WI J joins (uw W 0 w0) n' T := by
  have z10 : ¬ (1 : Int32) = 0 := by decide
  have h0 : RH J joins hist S (upd f 0 0) acts T := RH_f h (pk_un (by decide))
  obtain ⟨i, hi, hh, o1, o2, f', acts', e1, e2, e3⟩ := p_keep h0 hW
  refine ⟨i, hi, hh, fun Z hZ => ?_⟩
  subst hZ
  have uw0 : uw W 0 (W 0) = W := by
    funext c
    unfold uw
    split
    · rename_i e
      rw [e]
    · rfl
  rcases inC1 (C := 60) (by decide) x with ⟨M, hM1, hM, ex, t1, t2, t3, hx⟩ | ⟨hx, hh2⟩
  · have hx : ¬ FX10_isIn x 1 60 = 0 := fun e => z10 (hx.symm.trans e)
    have t3 : x ≤ (60 : Int32) := t3
    refine ⟨⟨fun q => absurd q t1, fun _ => ⟨fun _ => o1, fun q => absurd t3 q⟩⟩, ?_, W 0 2, cW (S i) W, upd (W 0) 2 x, hK hist, f', upd n 348 x, acts', ?_, ?_, fun k a b _ _ => (e2 k b).trans (pk_un a), e3, WI_s hW⟩
    · unfold OX10_slice
      refine ⟨fun q => absurd q hx, fun _ => ?_⟩
      exact o2
    · unfold FX9_slice
      rw [if_neg t1, if_pos t3, rem_e]
    · unfold FX10_slice
      dsimp only
      rw [if_neg hx, e1, hW.2.2.1]
  · have hx : FX10_isIn x 1 60 = 0 := hx
    have hx2 : x < 1 ∨ (¬ x < 1 ∧ ¬ x ≤ (60 : Int32)) := by
      rcases hh2 with q | ⟨q1, -, q2⟩
      · exact Or.inl q
      · exact Or.inr ⟨q1, q2⟩
    refine ⟨⟨fun _ => trivial, fun q => ⟨fun q2 => ?_, fun _ => trivial⟩⟩, ⟨fun _ => trivial, fun q => absurd hx q⟩, -1, S i, W 0, hist, upd f 0 0, n, acts, ?_, ?_, fun k a _ _ _ => pk_un a, by rw [uS_r]; exact h0, by rw [uw0]; exact hW⟩
    · rcases hx2 with q3 | ⟨q3, q4⟩
      · exact absurd q3 q
      · exact absurd q2 q4
    · unfold FX9_slice
      rcases hx2 with q3 | ⟨q3, q4⟩
      · rw [if_pos q3]
      · rw [if_neg q3, if_neg q4]
    · unfold FX10_slice
      dsimp only
      rw [if_pos hx]
theorem c_poke {x y v : Int32} (h : RH J joins hist S f acts T) (hW : WI J joins W n T) : ∃ i : Nat, i < 8 ∧ hist 1 = nI i ∧ ∀ Z, Z = S i → OX9_poke (hist 1) x y v (Z 0) (Z 1) (Z 2) (Z 4) (Z 6) (Z 7) (Z 8) (Z 9) (Z 10) (Z 11) (Z 12) (Z 14) (Z 16) (Z 17) (Z 18) (Z 19) (Z 20) (Z 21) (Z 22) (W 0) (W 1) (W 2) (W 4) (W 6) (W 7) (W 8) (W 9) (W 10) (W 11) (W 12) (W 14) (W 16) (W 17) (W 18) (W 19) (W 20) (W 21) (W 22) hist ∧ OX10_poke x y v f n acts ∧ ∃ (r : Int32) (C : Nat → mF) (w6 w16 hist' f' n' acts' : mF), FX9_poke (hist 1) x y v (Z 0) (Z 1) (Z 2) (Z 4) (Z 6) (Z 7) (Z 8) (Z 9) (Z 10) (Z 11) (Z 12) (Z 14) (Z 16) (Z 17) (Z 18) (Z 19) (Z 20) (Z 21) (Z 22) (W 0) (W 1) (W 2) (W 4) (W 6) (W 7) (W 8) (W 9) (W 10) (W 11) (W 12) (W 14) (W 16) (W 17) (W 18) (W 19) (W 20) (W 21) (W 22) hist = (r, C 0, C 1, C 2, C 4, C 6, C 7, C 8, C 9, C 10, C 11, C 12, C 14, C 16, C 17, C 18, C 19, C 20, C 21, C 22, w6, w16, hist') ∧ FX10_poke x y v f n acts = (r, f', n', acts') ∧ FA f f' ∧ RH J joins hist' (uS S i C) f' acts' T ∧ WI J joins (uw (uw W 6 w6) 16 w16) n' T := by
  have z10 : ¬ (1 : Int32) = 0 := by decide
  have h0 : RH J joins hist S (upd f 0 0) acts T := RH_f h (pk_un (by decide))
  obtain ⟨i, hi, hh, o1, o2, f', acts', e1, e2, e3⟩ := p_keep h0 hW
  refine ⟨i, hi, hh, fun Z hZ => ?_⟩
  subst hZ
  have uw0 : uw (uw W 6 (W 6)) 16 (W 16) = W := by
    funext c
    unfold uw
    split
    · rename_i e
      rw [e]
    · split
      · rename_i e
        rw [e]
      · rfl
  rcases mach_c x with hx | ⟨h10, h9⟩
  · obtain ⟨mm, hm, ex, m9, m10⟩ := mach_n hx
    rcases place_c y with ⟨p9, p10, p, hp, ey⟩ | ⟨p9, p10⟩
    · have p9' : ¬ FX9_isPlace y = 0 := fun e => z10 (p9.symm.trans e)
      have p10' : ¬ FX10_isPlace y = 0 := fun e => z10 (p10.symm.trans e)
      have eb : FX10_base x = nI (174 * mm) := by
        rw [ex]
        rcases (show mm = 0 ∨ mm = 1 by omega) with rfl | rfl <;> decide
      have ei : (nI (174 * mm) + y).toNatClampNeg = 174 * mm + p := by rw [ey, nI_add, nI_clamp (by omega)]
      have vi : vp_in (nI (174 * mm) + y) 532 := by rw [ey, nI_add]; exact vp_in_nI (by omega) (by decide)
      have cy : y.toNatClampNeg = p := by rw [ey]; exact nI_clamp (by omega)
      have vy : vp_in y 96 := by rw [ey]; exact vp_in_nI hp (by decide)
      have vx : vp_in x 2 := jvp2 hm ex
      have hW' : WI J joins (uw W (6 + 10 * mm) (upd (W (6 + 10 * mm)) p v)) (upd n (174 * mm + p) v) T := by
        obtain ⟨w1, w2, w3, w4, w5, w6⟩ := hW
        refine ⟨fun m hm' => ?_, by rw [uw_n (by omega), uw_n (by omega)]; exact RD_n w2 (fun k a b => pk_un (by omega)), (pk_un (by omega)).trans (w3.trans (congrFun (uw_n (by omega)).symm 2)), ?_, ?_, RI_q w6 (fun m i hm' hi' => ?_)⟩
        · by_cases e : m = mm
          · subst e
            have := RM_m (x := v) hp (w1 m hm')
            unfold RMw
            rw [uw_s, uw_n (by omega), uw_n (by omega), uw_n (by omega), uw_n (by omega), uw_n (by omega), uw_n (by omega), uw_n (by omega)]
            refine RM_g this (fun k hk => ?_)
            show upd n (174 * m + p) v (174 * m + k) = upd (fun k => n (174 * m + k)) p v k
            rw [upd_at, upd_at]
            by_cases e : k = p
            · rw [if_pos e, if_pos (by omega)]
            · rw [if_neg e, if_neg (by omega)]
          · exact RMw_g (RMw_W (w1 m hm') (fun c a b => uw_n (by omega))) (fun k hk => pk_un (by omega))
        · rw [uw_n (by omega)]
          exact w4
        · rw [uw_n (by omega)]
          exact w5
        · rw [uw_n (by omega)]
          exact ⟨rfl, rfl⟩
      have o9 : OX9_poke (hist 1) x y v (S i 0) (S i 1) (S i 2) (S i 4) (S i 6) (S i 7) (S i 8) (S i 9) (S i 10) (S i 11) (S i 12) (S i 14) (S i 16) (S i 17) (S i 18) (S i 19) (S i 20) (S i 21) (S i 22) (W 0) (W 1) (W 2) (W 4) (W 6) (W 7) (W 8) (W 9) (W 10) (W 11) (W 12) (W 14) (W 16) (W 17) (W 18) (W 19) (W 20) (W 21) (W 22) hist := ⟨fun q => absurd q m9, fun _ => ⟨fun q => absurd q p9', fun _ => ⟨o1, vx, fun _ => vy, fun _ => vy⟩⟩⟩
      have o10 : OX10_poke x y v f n acts := by
        unfold OX10_poke
        rw [eb]
        exact ⟨omach x, fun q => absurd q m10, fun _ => ⟨fun q => absurd q p10', fun _ => ⟨o2, vi⟩⟩⟩
      have t10 : FX10_poke x y v f n acts = (1, f', upd n (174 * mm + p) v, acts') := by
        unfold FX10_poke
        dsimp only
        rw [if_neg m10, if_neg p10', e1, eb, ei]
      rcases (show mm = 0 ∨ mm = 1 by omega) with rfl | rfl
      · have x0 : x = 0 := nI0 ex
        refine ⟨o9, o10, 1, cW (S i) W, upd (W 6) p v, W 16, hK hist, f', upd n (174 * 0 + p) v, acts', ?_, t10, fun k a b _ _ => (e2 k b).trans (pk_un a), e3, WI_c hW' (fun c hc => ?_)⟩
        · unfold FX9_poke
          dsimp only
          rw [if_neg m9, if_neg p9', if_pos x0, rem_e, cy]
        · unfold uw
          split
          · rename_i e
            rw [e]
            rfl
          · rfl
      · have x0 : ¬ x = 0 := nI1 ex
        refine ⟨o9, o10, 1, cW (S i) W, W 6, upd (W 16) p v, hK hist, f', upd n (174 * 1 + p) v, acts', ?_, t10, fun k a b _ _ => (e2 k b).trans (pk_un a), e3, WI_c hW' (fun c hc => ?_)⟩
        · unfold FX9_poke
          dsimp only
          rw [if_neg m9, if_neg p9', if_neg x0, rem_e, cy]
        · unfold uw
          split
          · rfl
          · split
            · rename_i e
              rw [e]
            · rfl
    · refine ⟨⟨fun q => absurd q m9, fun _ => ⟨fun _ => trivial, fun q => absurd p9 q⟩⟩, ⟨omach x, fun q => absurd q m10, fun _ => ⟨fun _ => trivial, fun q => absurd p10 q⟩⟩, 0, S i, W 6, W 16, hist, upd f 0 0, n, acts, ?_, ?_, fun k a _ _ _ => pk_un a, by rw [uS_r]; exact h0, by rw [uw0]; exact hW⟩
      · unfold FX9_poke
        dsimp only
        rw [if_neg m9, if_pos p9]
      · unfold FX10_poke
        dsimp only
        rw [if_neg m10, if_pos p10]
  · refine ⟨⟨fun _ => trivial, fun q => absurd h9 q⟩, ⟨omach x, fun _ => trivial, fun q => absurd h10 q⟩, 0, S i, W 6, W 16, hist, upd f 0 0, n, acts, ?_, ?_, fun k a _ _ _ => pk_un a, by rw [uS_r]; exact h0, by rw [uw0]; exact hW⟩
    · unfold FX9_poke
      dsimp only
      rw [if_pos h9]
    · unfold FX10_poke
      dsimp only
      rw [if_pos h10]
end ACT
