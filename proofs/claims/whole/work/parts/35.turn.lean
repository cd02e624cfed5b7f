/-! PURE: a turn of one machine (GENERATED, wip/gen/p/35.py) -/
theorem RM_cc {reg reg' mem tz tp tt tb l0 l1 g g' : mF} {v x : Int32} (h : RM reg mem tz tp tt tb l0 l1 g) (hr : ∀ k, k < 18 → reg' k = reg k) (r8 : reg' 18 = x) (r9 : reg' 19 = v) (hv : v = 0 ∨ v = 1) (g6 : g' 96 = x) (g7 : g' 97 = v) (hg : ∀ k, k < 174 → k ≠ 96 → k ≠ 97 → g' k = g k) : RM reg' mem tz tp tt tb l0 l1 g' := by
  obtain ⟨h0, h1, h2, h3, h4, h5, h6, h7⟩ := h
  refine ⟨?_, RMem_c h1 (fun k hk => hg k (by omega) (by omega) (by omega)), RQ_c h2 (fun k a c => hr k (by omega)) (fun k a c => hg k (by omega) (by omega) (by omega)), RRest_c h3 (fun k a c => hr k (by omega)) (fun k a c => hg k (by omega) (by omega) (by omega)), ⟨g6.trans r8.symm, g7.trans r9.symm, r9.symm ▸ hv⟩, RT_c h5 (fun k a c => hg k (by omega) (by omega) (by omega)), RLk_c h6 (fun k a c => hg k (by omega) (by omega) (by omega)), RLk_c h7 (fun k a c => hg k (by omega) (by omega) (by omega))⟩
  rcases h0 with ⟨a1, a2⟩ | hOn
  · exact Or.inl ⟨(hr 4 (by decide)).trans a1, (hg 102 (by decide) (by decide) (by decide)).trans a2⟩
  · exact Or.inr (ROn_c hOn (fun k hk => hr k (by omega)) (fun k a c => hg k (by omega) (by omega) (by omega)))
theorem cpy2 {reg A X : mF} {k : Nat} (hk : k < 20) : va_cpy (va_cpy reg A 0 0 20) X 0 0 20 k = reg k := by
  unfold va_cpy
  rw [if_pos (by omega), if_pos (by omega), show 0 + (0 + (k - 0) - 0) = k by omega]
section TRN
variable {F f n g reg mem tz tp tt tb l0 l1 dia mt prg op num fop farg a0 d this regA : mF} {b : Nat} {z y : Int32}
theorem b2_loop (H : Hb F b) : ∀ (m i fuel : Nat) (a : mF), i + m = 174 → m < fuel → OX10_turn_b2 fuel y (nI i) (fb F z) (emb b n g) a ∧ FX10_turn_b2 fuel y (nI i) (fb F z) (emb b n g) a = fun k => if i ≤ k ∧ k < 174 then g k else a k
  | _, _, 0, _, _, h => absurd h (Nat.not_lt_zero _)
  | 0, i, fuel + 1, a, h, _ => by
    have c : (174 : Int32) ≤ nI i := nI_le (a := 174) (by omega) (by omega)
    rw [OX10_turn_b2, FX10_turn_b2, if_pos c]
    refine ⟨⟨fun _ => trivial, fun q => absurd c q⟩, ?_⟩
    funext k
    rw [if_neg (by omega)]
  | m + 1, i, fuel + 1, a, h, hf => by
    have c : ¬ (174 : Int32) ≤ nI i := nI_ge (b := 174) (by omega) (by decide)
    have e1 : (fb F z 45 + nI i).toNatClampNeg = b + i := H.ad (show i < 174 by omega) rfl
    have e2 : (nI i).toNatClampNeg = i := nI_clamp (by omega)
    have ih := b2_loop H m (i + 1) fuel (upd a i (g i)) (by omega) (by omega)
    rw [OX10_turn_b2, FX10_turn_b2, if_neg c, e1, e2, emb_at (show i < 174 by omega), nI_1]
    refine ⟨⟨fun q => absurd q c, fun _ => ⟨H.vp (show i < 174 by omega) rfl, vp_in_nI (by omega) (by decide), ih.1⟩⟩, ih.2.trans ?_⟩
    funext k
    simp only [upd_at]
    by_cases q : i + 1 ≤ k ∧ k < 174
    · rw [if_pos q, if_pos (show i ≤ k ∧ k < 174 by omega)]
    · rw [if_neg q]
      by_cases q2 : k = i
      · subst q2
        rw [if_pos rfl, if_pos (show k ≤ k ∧ k < 174 by omega)]
      · rw [if_neg q2, if_neg (show ¬ (i ≤ k ∧ k < 174) by omega)]
theorem b9_loop (H : Hb F b) {a : mF} : ∀ (m i fuel : Nat) (g : mF), i + m = 174 → m < fuel → OX10_turn_b9 fuel y (nI i) (fb F z) (emb b n g) a ∧ FX10_turn_b9 fuel y (nI i) (fb F z) (emb b n g) a = emb b n (fun k => if i ≤ k ∧ k < 174 then a k else g k)
  | _, _, 0, _, _, h => absurd h (Nat.not_lt_zero _)
  | 0, i, fuel + 1, g, h, _ => by
    have c : (174 : Int32) ≤ nI i := nI_le (a := 174) (by omega) (by omega)
    rw [OX10_turn_b9, FX10_turn_b9, if_pos c]
    refine ⟨⟨fun _ => trivial, fun q => absurd c q⟩, ?_⟩
    rw [show (fun k => if i ≤ k ∧ k < 174 then a k else g k) = g from funext fun k => if_neg (by omega)]
  | m + 1, i, fuel + 1, g, h, hf => by
    have c : ¬ (174 : Int32) ≤ nI i := nI_ge (b := 174) (by omega) (by decide)
    have e1 : (fb F z 45 + nI i).toNatClampNeg = b + i := H.ad (show i < 174 by omega) rfl
    have e2 : (nI i).toNatClampNeg = i := nI_clamp (by omega)
    have ih := b9_loop (a := a) H m (i + 1) fuel (upd g i (a i)) (by omega) (by omega)
    rw [OX10_turn_b9, FX10_turn_b9, if_neg c, e1, e2, emb_upd (show i < 174 by omega), nI_1]
    refine ⟨⟨fun q => absurd q c, fun _ => ⟨vp_in_nI (by omega) (by decide), H.vp (show i < 174 by omega) rfl, ih.1⟩⟩, ih.2.trans ?_⟩
    congr 1
    funext k
    simp only [upd_at]
    by_cases q : i + 1 ≤ k ∧ k < 174
    · rw [if_pos q, if_pos (show i ≤ k ∧ k < 174 by omega)]
    · rw [if_neg q]
      by_cases q2 : k = i
      · subst q2
        rw [if_pos rfl, if_pos (show k ≤ k ∧ k < 174 by omega)]
      · rw [if_neg q2, if_neg (show ¬ (i ≤ k ∧ k < 174) by omega)]
def ResT (r : Int32 × mF × mF × mF × mF × mF × mF × mF × mF × mF × mF × mF × mF) (m : Int32 × mF × mF × mF × mF) (f this n d : mF) (b xm T : Nat) : Prop :=
  ∃ f' n' g' a' d', m = (0, f', emb b n' g', a', d') ∧ (∀ k, k ≠ 45 → k ≠ 46 → f' k = f k) ∧ RM r.2.2.1 r.2.2.2.2.1 r.2.2.2.2.2.1 r.2.2.2.2.2.2.1 r.2.2.2.2.2.2.2.1 r.2.2.2.2.2.2.2.2.1 r.2.2.2.2.2.2.2.2.2.1 r.2.2.2.2.2.2.2.2.2.2.1 g' ∧ RD r.2.2.2.2.2.2.2.2.2.2.2.1 r.2.2.2.2.2.2.2.2.2.2.2.2 n' (T + 1) ∧ Keep b n n' ∧ d' xm = r.2.1 7 ∧ (∀ k, k ≠ xm → d' k = d k) ∧ ∀ k, k ≠ 7 → r.2.1 k = this k
/-- a turn -/
theorem p_turn {x sl : Int32} {xm T : Nat} (hv : vp_in x 2) (hxm : x.toNatClampNeg = xm) (hb : FX10_base x = nI b) (hb2 : b = 0 ∨ b = 174) (h0 : this 0 = x) (h : RM reg mem tz tp tt tb l0 l1 g) (hs : n 348 = sl) (hT : T < 2 ^ 30) (hd : RD dia mt n T) (hP : RPg prg op num f fop farg) : OX3_pass sl this reg regA mem tz tp tt tb l0 l1 dia mt prg op num ∧ OX10_turn x f fop farg (emb b n g) a0 d ∧ ResT (FX3_pass sl this reg regA mem tz tp tt tb l0 l1 dia mt prg op num) (FX10_turn x f fop farg (emb b n g) a0 d) f this n d b xm T := by
  obtain ⟨F, hF⟩ : ∃ F : mF, F = upd f 45 (nI b) := ⟨_, rfl⟩
  have H : Hb F b := by rw [hF]; exact ⟨pk_us, hb2⟩
  have eF : F = fb F (F 46) := (upd_self rfl).symm
  have kF : ∀ z k, k ≠ 45 → k ≠ 46 → fb F z k = f k := fun z k h1 h2 => by rw [hF]; exact (pk_un h2).trans (pk_un h1)
  have kF0 : ∀ k, k ≠ 45 → k ≠ 46 → F k = f k := fun k h1 h2 => by rw [hF]; exact pk_un h1
  obtain ⟨c1, c2, c3⟩ := h.2.2.2.2.1
  have g97 : FX10_get 97 F (emb b n g) = reg 19 := by
    rw [eF]
    exact (get_e H (k := 97) (by decide) rfl).trans c2
  have og : OX10_get 97 F (emb b n g) := by
    rw [eF]
    exact oget_e H (k := 97) (by decide) rfl ▸ trivial
  have b2 := b2_loop (y := x) (z := F 46) (n := n) (g := g) H 174 0 10000 a0 (by decide) (by decide)
  rw [nI_0, ← eF] at b2
  obtain ⟨b21, b22⟩ := b2
  obtain ⟨A, hA⟩ : ∃ A : mF, A = fun k => if 0 ≤ k ∧ k < 174 then g k else a0 k := ⟨_, rfl⟩
  rw [← hA] at b22
  have kA : ∀ k, k < 174 → A k = g k := fun k hk => by rw [hA]; exact if_pos ⟨Nat.zero_le _, hk⟩
  have e0 : upd F 46 0 = fb F 0 := rfl
  have t7 : ∀ v w, upd (upd this 7 v) 7 w = upd this 7 w := fun v w => upd_twice
  have k7 : ∀ v k, k ≠ 7 → upd this 7 v k = this k := fun v k hk => pk_un hk
  rcases c3 with c3 | c3
  · have n19 : ¬ (0 : Int32) = 1 := by decide
    obtain ⟨o1, z, G, o2, o3⟩ := p_choose (n := n) H h
    have o2 := fun (y : Int32) (fop farg a0 d : mF) => o2 y fop farg a0 d
    obtain ⟨p1, p2⟩ := o2 x fop farg A (upd d xm 2)
    have ob := fun (g' : mF) => b9_loop (y := x) (z := 1) (n := n) (a := A) H 174 0 10000 g' (by decide) (by decide)
    rw [nI_0] at ob
    obtain ⟨U, hU⟩ : ∃ U, U = FX3_chooseWhoRuns reg mem := ⟨_, rfl⟩
    rw [← hU] at o3
    have red : OX10_turn_b7 x (fb F z) fop farg (emb b n G) A (upd d xm 2) → OX10_turn x f fop farg (emb b n g) a0 d := by
      intro hh
      have p3 := p2 hh
      rw [OX10_turn, hb, ← hF, hxm]
      refine ⟨hv, og, ?_⟩
      dsimp only
      rw [g97, c3, b22, e0]
      exact ⟨fun q => absurd q n19, fun _ => ⟨b21, p3⟩⟩
    have ref : FX10_turn x f fop farg (emb b n g) a0 d = FX10_turn_b7 x (fb F z) fop farg (emb b n G) A (upd d xm 2) := by
      rw [FX10_turn, hb, ← hF, hxm]
      dsimp only
      rw [g97, c3, b22, e0, if_neg n19]
      exact p1
    rw [ref]
    rcases o3 with ⟨rfl, u1, hM⟩ | ⟨rfl, u1⟩
    · have x46 : fb F 0 46 = 0 := fb_46
      obtain ⟨hr, hB⟩ := hM
      obtain ⟨k1, k2, k3⟩ := hB.2.2.2.1
      rcases hr with ⟨a1, a2⟩ | hOn
      · have hM1 : RM (upd U.2 18 (U.2 18 + 1)) mem tz tp tt tb l0 l1 (upd G 96 (U.2 18 + 1)) := RM_cc (x := U.2 18 + 1) (v := U.2 19) ⟨Or.inl ⟨a1, a2⟩, hB⟩ (fun k hk => pk_un (by omega)) pk_us (pk_un (by decide)) k3 pk_us ((pk_un (by decide)).trans k2) (fun k hk h6 h7 => pk_un h6)
        obtain ⟨r1, r2, g', r3, r4⟩ := p_come (n := n) H hM1
        have n01 : ¬ (0 : Int32) = 1 := by decide
        refine ⟨?_, red ?_, ?_⟩
        · simp (decide := true) only [OX3_pass, FX3_isHalted, c3, o1, ← hU, u1, FX3_isRunning, a1, r1, if_true, if_false, true_implies, false_implies, implies_true, not_true_eq_false, not_false_eq_true, and_true, true_and, and_self, or_true, true_or]
        · simp (decide := true) only [OX10_turn_b7, x46, og102 H, g102 H, a2, og96 H, g96 H, k1, os96 H, s96 H, r2, if_true, if_false, true_implies, false_implies, implies_true, not_true_eq_false, not_false_eq_true, and_true, true_and, and_self, or_true, true_or]
        · refine ⟨fb F 0, n, g', A, upd d xm 2, by simp (decide := true) only [FX10_turn_b7, x46, g102 H, a2, g96 H, k1, s96 H, r3, if_true, if_false], kF 0, ?_⟩
          simp (decide := true) only [FX3_pass, FX3_isHalted, c3, ← hU, u1, FX3_isRunning, a1, if_true, if_false]
          exact ⟨r4, RD_c hd (Nat.le_succ _) (fun _ _ => rfl), Keep.refl, pk_us.trans pk_us.symm, fun k hk => pk_un hk, k7 2⟩
      · have a1 : ¬ U.2 4 = -1 := wNN hOn.1
        have a2 : G 102 = 1 := hOn.2.1
        have a4 : G 104 = U.2 5 := hOn.2.2.2.1
        have th0 : upd this 7 2 0 = x := (pk_un (by decide)).trans h0
        have hP' : RPg prg op num F fop farg := by
          obtain ⟨L, l1, l2, l3, l4⟩ := hP
          exact ⟨L, l1, l2, (kF0 33 (by decide) (by decide)).trans l3, l4⟩
        obtain ⟨s1, s2, s3⟩ := p_perf (n := n) (th := upd this 7 2) H ⟨hOn, hB⟩ hs hT hd hP'
        rw [th0] at s2 s3
        obtain ⟨P, hPP⟩ : ∃ P, P = FX3_perform sl (upd this 7 2) U.2 mem tz tp tt tb l0 l1 dia mt prg op num := ⟨_, rfl⟩
        obtain ⟨D, hD⟩ : ∃ D, D = FX10_does x (fb F 0) fop farg (emb b n G) := ⟨_, rfl⟩
        rw [← hPP, ← hD] at s3
        rcases s3 with ⟨v1, v2, n', g', v3, v4, v5, v6⟩ | ⟨v1, v2, v3, g', v4⟩
        · obtain ⟨j1, j2, j3⟩ := v4.2.2.2.2.1
          have hM1 := RM_cc (reg' := upd P.2.2.1 18 (P.2.2.1 18 + 1)) (g' := upd g' 96 (P.2.2.1 18 + 1)) (x := P.2.2.1 18 + 1) (v := P.2.2.1 19) v4 (fun k hk => pk_un (by omega)) pk_us (pk_un (by decide)) j3 pk_us ((pk_un (by decide)).trans j2) (fun k hk h6 h7 => pk_un h6)
          obtain ⟨r1, r2, G', r3, r4⟩ := p_come (n := n') H hM1
          refine ⟨?_, red ?_, ?_⟩
          · simp (decide := true) only [OX3_pass, FX3_isHalted, c3, o1, ← hU, u1, FX3_isRunning, a1, s1, ← hPP, v1, r1, if_true, if_false, true_implies, false_implies, implies_true, not_true_eq_false, not_false_eq_true, and_true, true_and, and_self, or_true, true_or]
          · simp (decide := true) only [OX10_turn_b7, x46, og102 H, g102 H, a2, og104 H, hv, s2, ← hD, v3, og96 H, g96 H, j1, os96 H, s96 H, r2, if_true, if_false, true_implies, false_implies, implies_true, not_true_eq_false, not_false_eq_true, and_true, true_and, and_self, or_true, true_or]
          · refine ⟨fb F 0, n', G', A, upd (upd d xm 2) xm (U.2 5), by simp (decide := true) only [FX10_turn_b7, x46, g102 H, a2, g104 H, a4, hxm, ← hD, v3, g96 H, j1, s96 H, r3, if_true, if_false], kF 0, ?_⟩
            simp (decide := true) only [FX3_pass, FX3_isHalted, c3, ← hU, u1, FX3_isRunning, a1, ← hPP, v1, if_true, if_false]
            refine ⟨r4, v5, v6, ?_, fun k hk => (pk_un hk).trans (pk_un hk), fun k hk => ?_⟩
            · rw [v2, pk_us]; exact pk_us.symm
            · rw [v2, t7]; exact k7 _ k hk
        · have n0 : ¬ (fb F 1) 46 = 0 := by rw [fb_46]; decide
          obtain ⟨q1, q2⟩ := ob g'
          refine ⟨?_, red ?_, ?_⟩
          · simp (decide := true) only [OX3_pass, FX3_isHalted, c3, o1, ← hU, u1, FX3_isRunning, a1, s1, ← hPP, v1, if_true, if_false, true_implies, false_implies, implies_true, not_true_eq_false, not_false_eq_true, and_true, true_and, and_self, or_true, true_or]
          · simp (decide := true) only [OX10_turn_b7, x46, og102 H, g102 H, a2, og104 H, hv, s2, ← hD, v4, n0, q1, q2, os97 H, if_true, if_false, true_implies, false_implies, implies_true, not_true_eq_false, not_false_eq_true, and_true, true_and, and_self, or_true, true_or]
          · refine ⟨fb F 1, n, _, A, upd (upd (upd d xm 2) xm (U.2 5)) xm 2, by simp (decide := true) only [FX10_turn_b7, x46, g102 H, a2, g104 H, a4, hxm, ← hD, v4, n0, q2, s97 H, if_true, if_false] <;> rfl, kF 1, ?_⟩
            simp (decide := true) only [FX3_pass, FX3_isHalted, c3, ← hU, u1, FX3_isRunning, a1, ← hPP, v1, v3, if_true, if_false]
            refine ⟨?_, RD_c hd (Nat.le_succ _) (fun _ _ => rfl), Keep.refl, ?_, fun k hk => (pk_un hk).trans ((pk_un hk).trans (pk_un hk)), fun k hk => ?_⟩
            · refine RM_cc (x := reg 18) (v := 1) h (fun k hk => (pk_un (by omega)).trans (cpy2 (by omega))) ((pk_un (by decide)).trans (cpy2 (by decide))) pk_us (Or.inr rfl) ?_ pk_us (fun k hk h6 h7 => ?_)
              · rw [pk_un (by decide), if_pos (by omega), kA 96 (by decide)]
                exact c1
              · rw [pk_un h7, if_pos (by omega), kA k hk]
            · rw [pk_us]; exact pk_us.symm
            · rw [pk_un hk]
              rcases v2 with v2 | v2
              · rw [v2]; exact k7 2 k hk
              · rw [v2, t7]; exact k7 _ k hk
    · have n0 : ¬ (fb F 1) 46 = 0 := by rw [fb_46]; decide
      obtain ⟨q1, q2⟩ := ob G
      refine ⟨?_, red ?_, ?_⟩
      · simp (decide := true) only [OX3_pass, FX3_isHalted, c3, o1, ← hU, u1, if_true, if_false, true_implies, false_implies, implies_true, not_true_eq_false, not_false_eq_true, and_true, true_and, and_self, or_true, true_or]
      · simp (decide := true) only [OX10_turn_b7, n0, q1, q2, os97 H, hv, if_true, if_false, true_implies, false_implies, implies_true, not_true_eq_false, not_false_eq_true, and_true, true_and, and_self, or_true, true_or]
      · refine ⟨fb F 1, n, _, A, upd (upd d xm 2) xm 2, by simp (decide := true) only [FX10_turn_b7, n0, q2, s97 H, hxm, if_true, if_false] <;> rfl, kF 1, ?_⟩
        simp (decide := true) only [FX3_pass, FX3_isHalted, c3, ← hU, u1, if_true, if_false]
        refine ⟨?_, RD_c hd (Nat.le_succ _) (fun _ _ => rfl), Keep.refl, ?_, ?_, ?_⟩
        · refine RM_cc (x := reg 18) (v := 1) h (fun k hk => (pk_un (by omega)).trans (cpy2 (by omega))) ((pk_un (by decide)).trans (cpy2 (by decide))) pk_us (Or.inr rfl) ?_ pk_us (fun k hk h6 h7 => ?_)
          · rw [pk_un (by decide), if_pos (by omega), kA 96 (by decide)]
            exact c1
          · rw [pk_un h7, if_pos (by omega), kA k hk]
        · rw [pk_us, t7]; exact pk_us.symm
        · intro k hk
          rw [pk_un hk, pk_un hk]
        · intro k hk
          rw [t7]
          exact k7 2 k hk
  · refine ⟨by simp (decide := true) only [OX3_pass, FX3_isHalted, c3, if_true, if_false, true_implies, false_implies, implies_true, not_true_eq_false, not_false_eq_true, and_true, true_and, and_self, or_true, true_or], ?_, ?_⟩
    · rw [OX10_turn, hb, ← hF, hxm]
      refine ⟨hv, og, ?_⟩
      dsimp only
      rw [g97, c3]
      exact ⟨fun _ => trivial, fun q => absurd rfl q⟩
    · refine ⟨F, n, g, a0, upd d xm 2, ?_, kF0, ?_⟩
      · rw [FX10_turn, hb, ← hF, hxm]
        dsimp only
        rw [g97, c3, if_pos rfl]
      · simp (decide := true) only [FX3_pass, FX3_isHalted, c3, if_true, if_false]
        exact ⟨h, RD_c hd (Nat.le_succ _) (fun _ _ => rfl), Keep.refl, pk_us.trans pk_us.symm, fun k hk => pk_un hk, k7 2⟩
end TRN
