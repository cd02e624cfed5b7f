/-! PURE: sending and receiving (GENERATED, wip/gen/p/29.py) -/
def ResC (r : Int32 × mF × mF × mF × mF × mF × mF × mF × mF × mF × mF) (m : Int32 × mF × mF) (f : mF) (b : Nat) (n mem tz tp tt tb l0 l1 dia mt : mF) (T : Nat) : Prop :=
  (r.1 = 1 ∧ ∃ n' g', m.2 = (fb f 0, emb b n' g') ∧ RM r.2.1 r.2.2.1 r.2.2.2.1 r.2.2.2.2.1 r.2.2.2.2.2.1 r.2.2.2.2.2.2.1 r.2.2.2.2.2.2.2.1 r.2.2.2.2.2.2.2.2.1 g' ∧ RD r.2.2.2.2.2.2.2.2.2.1 r.2.2.2.2.2.2.2.2.2.2 n' (T + 1) ∧ Keep b n n') ∨ (r.1 = 0 ∧ r.2.2 = (mem, tz, tp, tt, tb, l0, l1, dia, mt) ∧ ∃ g', m.2 = (fb f 1, emb b n g'))
theorem isIn_1 {x : Int32} {a c : Nat} (ha : a < 2 ^ 31) (hc : c < 2 ^ 31) {k : Nat} (h1 : a ≤ k) (h2 : k ≤ c) (e : x = nI k) : FX10_isIn x (nI a) (nI c) = 1 ∧ ¬ x < nI a ∧ ¬ nI c < x := by
  subst e
  have q1 : ¬ nI k < nI a := nI_nlt h1 (by omega)
  have q2 : ¬ nI c < nI k := nI_nlt h2 hc
  unfold FX10_isIn
  rw [if_neg q1, if_neg q2]
  exact ⟨rfl, q1, q2⟩
theorem isIn_0 {x : Int32} {a c : Nat} (ha : a < 2 ^ 31) (hc : c < 2 ^ 31) (h : ¬ ∃ k : Nat, a ≤ k ∧ k ≤ c ∧ x = nI k) : FX10_isIn x (nI a) (nI c) = 0 ∧ (x < nI a ∨ nI c < x) := by
  unfold FX10_isIn
  by_cases h1 : x < nI a
  · rw [if_pos h1]
    exact ⟨rfl, Or.inl h1⟩
  · rw [if_neg h1]
    by_cases h2 : nI c < x
    · rw [if_pos h2]
      exact ⟨rfl, Or.inr h2⟩
    · exact absurd (between hc ha h1 h2) h
theorem isIn4 {x : Int32} (h2 : ¬ x = -2) (h3 : ¬ x = -3) (h4 : ¬ x = -4) : FX10_isIn x (-4) (-2) = 0 := by
  unfold FX10_isIn
  by_cases a : x < -4
  · rw [if_pos a]
  · rw [if_neg a]
    by_cases c : (-2 : Int32) < x
    · rw [if_pos c]
    · exfalso
      rw [Int32.lt_iff_toInt_lt] at a c
      have e4 : (-4 : Int32).toInt = -4 := by decide
      have e3 : (-3 : Int32).toInt = -3 := by decide
      have e2 : (-2 : Int32).toInt = -2 := by decide
      have n2 : ¬ x.toInt = -2 := fun e => h2 (Int32.toInt_inj.mp (e.trans e2.symm))
      have n3 : ¬ x.toInt = -3 := fun e => h3 (Int32.toInt_inj.mp (e.trans e3.symm))
      have n4 : ¬ x.toInt = -4 := fun e => h4 (Int32.toInt_inj.mp (e.trans e4.symm))
      omega
theorem isIn4_1 : FX10_isIn (-4) (-4) (-2) = 1 ∧ FX10_isIn (-3) (-4) (-2) = 1 ∧ FX10_isIn (-2) (-4) (-2) = 1 ∧ FX10_isIn 0 (-4) (-2) = 0 := by decide
theorem RM.cl {reg mem tz tp tt tb l0 l1 g : mF} (h : RW reg g) (h2 : RB0 reg mem tz tp tt tb l0 l1 g) (h0 : ∀ k, k < 3 → reg k = 0) : RM reg mem tz tp tt tb l0 l1 (upd (upd (upd g 106 0) 107 0) 108 0) := (RO_clr h h2 ⟨h0 0 (by decide), h0 1 (by decide), h0 2 (by decide)⟩).M
theorem clr3 {reg : mF} : ∀ k, k < 3 → (FX3_clear reg).2 k = 0 := fun k hk => by
  rcases (show k = 0 ∨ k = 1 ∨ k = 2 by omega) with rfl | rfl | rfl <;> rfl
theorem pl4 {x : Int32} (h : isPl x) (h4 : ¬ (4 : Int32) ≤ x) : x = 0 ∨ x = 1 ∨ x = 2 ∨ x = 3 := by
  obtain ⟨k, hk, rfl⟩ := h
  rcases Nat.lt_or_ge k 4 with q | q
  · rcases (show k = 0 ∨ k = 1 ∨ k = 2 ∨ k = 3 by omega) with rfl | rfl | rfl | rfl <;> decide
  · exact absurd (nI_le (a := 4) q (by omega)) h4
theorem RB0_wk {reg reg' mem mem' tz tp tt tb tz' tp' tt' tb' l0 l1 g g' : mF} (h : RB0 reg mem tz tp tt tb l0 l1 g) (hm : RMem mem' g') (hq : RQ reg' g') (hT : RT tz' tp' tt' tb' g') (hg : ∀ k, k = 96 ∨ k = 97 ∨ (102 ≤ k ∧ k < 117) ∨ 154 ≤ k → g' k = g k) (hr : ∀ k, k < 14 ∨ 18 ≤ k → reg' k = reg k) : RB0 reg' mem' tz' tp' tt' tb' l0 l1 g' := by
  obtain ⟨h1, h2, h3, h4, h5, h6, h7⟩ := h
  exact ⟨hm, hq, RRest_c h3 (fun k a c => hr k (by omega)) (fun k a c => hg k (by omega)), RClk_c h4 (fun k a c => hr k (by omega)) (fun k a c => hg k (by omega)), hT, RLk_c h6 (fun k a c => hg k (by omega)), RLk_c h7 (fun k a c => hg k (by omega))⟩
section COM
variable {f n g reg mem tz tp tt tb l0 l1 dia mt : mF} {b : Nat}
theorem words_b2_0 {y1 y2 y3 y4 y5 : Int32} {m : mF} : OX10_passesWords_b2 y1 y2 y3 y4 y5 0 (fb f 0) m ∧ FX10_passesWords_b2 y1 y2 y3 y4 y5 0 (fb f 0) m = (0, fb f 1, m) := by
  refine ⟨by simp (decide := true) only [OX10_passesWords_b2, needs_bad, fb_46, if_true, if_false, true_implies, false_implies, implies_true, not_true_eq_false, not_false_eq_true, and_true, true_and, and_self, or_true, true_or], by simp (decide := true) only [FX10_passesWords_b2, needs_bad, fb_46, if_true, if_false]⟩
theorem words_b7_0 (H : Hb f b) {y1 y2 y3 y4 y5 y6 : Int32} (hy : y2 = 0 ∨ y2 = 1) : OX10_passesWords_b7 y1 y2 y3 y4 y5 y6 0 (fb f 1) (emb b n g) ∧ ∃ g', FX10_passesWords_b7 y1 y2 y3 y4 y5 y6 0 (fb f 1) (emb b n g) = (0, fb f 1, emb b n g') := by
  rcases hy with rfl | rfl
  · refine ⟨by simp (decide := true) only [OX10_passesWords_b7, OX10_passesWords_b10, cps_1, oclears H, if_true, if_false, true_implies, false_implies, implies_true, not_true_eq_false, not_false_eq_true, and_true, true_and, and_self, or_true, true_or], _, by simp (decide := true) only [FX10_passesWords_b7, FX10_passesWords_b10, cps_1, clears_e H, if_true, if_false] <;> rfl⟩
  · refine ⟨by simp (decide := true) only [OX10_passesWords_b7, OX10_passesWords_b10, isIn4_1, cps_1, oclears H, if_true, if_false, true_implies, false_implies, implies_true, not_true_eq_false, not_false_eq_true, and_true, true_and, and_self, or_true, true_or], _, by simp (decide := true) only [FX10_passesWords_b7, FX10_passesWords_b10, isIn4_1, cps_1, clears_e H, if_true, if_false] <;> rfl⟩
theorem p_comm0 (H : Hb f b) (h : RO reg mem tz tp tt tb l0 l1 g) {T : Nat} (hT : T < 2 ^ 30) (hd : RD dia mt n T) {th : mF} : OX3_communicate 0 th reg mem tz tp tt tb l0 l1 dia mt ∧ OX10_passesWords (th 0) 0 (fb f 0) (emb b n g) ∧ ResC (FX3_communicate 0 th reg mem tz tp tt tb l0 l1 dia mt) (FX10_passesWords (th 0) 0 (fb f 0) (emb b n g)) f b n mem tz tp tt tb l0 l1 dia mt T := by
  have e6 : g 106 = reg 0 := h.1.2.2.2.2.2.2.1
  have e7 : g 107 = reg 1 := h.1.2.2.2.2.2.2.2.1
  have e8 : g 108 = reg 2 := h.1.2.2.2.2.2.2.2.2.1
  have hR := RW_clr h.1.w
  have hB := RB0_clr h.2
  have b20 := fun y1 y2 y3 y4 y5 m => @words_b2_0 f y1 y2 y3 y4 y5 m
  by_cases hA : ∃ c : Nat, 1 ≤ c ∧ c ≤ 8 ∧ reg 0 = nI c
  · obtain ⟨c, c1, c8, eA⟩ := hA
    obtain ⟨a1, a2, a3⟩ := isIn_1 (a := 1) (c := 8) (by decide) (by decide) c1 c8 rfl
    have a1 : FX10_isIn (nI c) 1 8 = 1 := a1
    have a2 : ¬ nI c < 1 := a2
    have a3 : ¬ 8 < nI c := a3
    by_cases hx : isPl (reg 1)
    · by_cases hC : isAr (reg 2) c
      · have r1 := ar_1 (show c ≤ 96 by omega) hC
        have r2 := isPlace10_1 (hC.pl0 c1)
        have r3 : FX10_isPlace ((reg 2 + nI c) - 1) = 1 := by
          rw [ar_e c1 (hC.pl0 c1)]
          exact isPlace10_1 (hC.pl (by omega))
        have xc := (pl_cl hx).1
        by_cases h4 : (4 : Int32) ≤ reg 1
        · have et := at_ok (n := n) (g := g) H hx
          have em := h.2.1 _ xc
          by_cases hv : mem (reg 1).toNatClampNeg = -1
          · obtain ⟨w1, w2, g', w3, w4, w5⟩ := p_wait (n := n) (c := reg 2) H hR hB hx
            refine ⟨by simp (decide := true) only [OX3_communicate, eA, a2, a3, isPlace9_1 hx, r1, h4, pl_vp hx, hv, w1, if_true, if_false, true_implies, false_implies, implies_true, not_true_eq_false, not_false_eq_true, and_true, true_and, and_self, or_true, true_or], by simp (decide := true) only [OX10_passesWords, og106 H, og107 H, og108 H, g106 H, g107 H, g108 H, e6, e7, e8, eA, a1, isPlace10_1 hx, r2, r3, OX10_passesWords_b2, needs_ok one0, fb_46, h4, oat H (Or.inl rfl), et, em, hv, w2, w3, oclears H, if_true, if_false, true_implies, false_implies, implies_true, not_true_eq_false, not_false_eq_true, and_true, true_and, and_self, or_true, true_or], ?_⟩
            refine Or.inl ⟨by simp (decide := true) only [FX3_communicate, eA, a2, a3, isPlace9_1 hx, r1, h4, hv, if_true, if_false], n, _, by simp (decide := true) only [FX10_passesWords, g106 H, g107 H, g108 H, e6, e7, e8, eA, a1, isPlace10_1 hx, r2, r3, FX10_passesWords_b2, needs_ok one0, fb_46, h4, et, em, hv, w3, clears_e H, if_true, if_false] <;> rfl, ?_⟩
            simp (decide := true) only [FX3_communicate, eA, a2, a3, isPlace9_1 hx, r1, h4, hv, if_true, if_false]
            exact ⟨RM_gclr w4 w5, RD_c hd (Nat.le_succ _) (fun _ _ => rfl), Keep.refl⟩
          · by_cases hp : isP (mem (reg 1).toNatClampNeg)
            · have hq3 := wS3 (pW hp)
              have et2 := at_ok (n := n) (g := g) H hq3
              have em2 := h.2.1 _ (pl_cl hq3).1
              by_cases hq : isAr (mem (mem (reg 1).toNatClampNeg / 2 - 3).toNatClampNeg) c
              · obtain ⟨m1, m2, n', g', m3, m4, m5, m6, m7, m8⟩ := p_meet_r (n := n) (dia := dia) (mt := mt) (dir := 0) (th := th) H hR hB hT hd rfl hp hx c1 hC hq rfl
                have r4 := ar_1 (show c ≤ 96 by omega) hq
                refine ⟨by simp (decide := true) only [OX3_communicate, eA, a2, a3, isPlace9_1 hx, r1, h4, pl_vp hx, hv, isProc9_1 hp, pl_vp hq3, r4, m1, if_true, if_false, true_implies, false_implies, implies_true, not_true_eq_false, not_false_eq_true, and_true, true_and, and_self, or_true, true_or], by simp (decide := true) only [OX10_passesWords, og106 H, og107 H, og108 H, g106 H, g107 H, g108 H, e6, e7, e8, eA, a1, isPlace10_1 hx, r2, r3, OX10_passesWords_b2, needs_ok one0, fb_46, h4, oat H (Or.inl rfl), et, em, hv, oisP10, isProc10_1 hp, et2, em2, OX10_passesWords_b7, OX10_passesWords_b10, FX10_passesWords_b7, FX10_passesWords_b10, m2, m3, oclears H, if_true, if_false, true_implies, false_implies, implies_true, not_true_eq_false, not_false_eq_true, and_true, true_and, and_self, or_true, true_or], ?_⟩
                refine Or.inl ⟨by simp (decide := true) only [FX3_communicate, eA, a2, a3, isPlace9_1 hx, r1, h4, pl_vp hx, hv, isProc9_1 hp, pl_vp hq3, r4, if_true, if_false], n', _, by simp (decide := true) only [FX10_passesWords, g106 H, g107 H, g108 H, e6, e7, e8, eA, a1, isPlace10_1 hx, r2, r3, FX10_passesWords_b2, needs_ok one0, fb_46, h4, et, em, hv, isProc10_1 hp, et2, em2, FX10_passesWords_b7, FX10_passesWords_b10, m3, clears_e H, if_true, if_false] <;> rfl, ?_⟩
                simp (decide := true) only [FX3_communicate, eA, a2, a3, isPlace9_1 hx, r1, h4, pl_vp hx, hv, isProc9_1 hp, pl_vp hq3, r4, if_true, if_false]
                exact ⟨RM.cl m4 m5 (fun k hk => (m8 k hk).trans (clr3 k hk)), m6, m7⟩
              · have r4 := ar_0 (show c ≤ 96 by omega) hq
                obtain ⟨m1, g', m2⟩ := cps_no (n := n) (g := g) (x1 := th 0) (x2 := reg 1) (x3 := mem (reg 1).toNatClampNeg) (x5 := reg 2) (x7 := 0) H c1 c8 (Or.inl hq)
                refine ⟨by simp (decide := true) only [OX3_communicate, eA, a2, a3, isPlace9_1 hx, r1, h4, pl_vp hx, hv, isProc9_1 hp, pl_vp hq3, r4, if_true, if_false, true_implies, false_implies, implies_true, not_true_eq_false, not_false_eq_true, and_true, true_and, and_self, or_true, true_or], by simp (decide := true) only [OX10_passesWords, og106 H, og107 H, og108 H, g106 H, g107 H, g108 H, e6, e7, e8, eA, a1, isPlace10_1 hx, r2, r3, OX10_passesWords_b2, needs_ok one0, fb_46, h4, oat H (Or.inl rfl), et, em, hv, oisP10, isProc10_1 hp, et2, em2, OX10_passesWords_b7, OX10_passesWords_b10, FX10_passesWords_b7, FX10_passesWords_b10, m1, m2, oclears H, if_true, if_false, true_implies, false_implies, implies_true, not_true_eq_false, not_false_eq_true, and_true, true_and, and_self, or_true, true_or], ?_⟩
                refine Or.inr ⟨by simp (decide := true) only [FX3_communicate, eA, a2, a3, isPlace9_1 hx, r1, h4, pl_vp hx, hv, isProc9_1 hp, pl_vp hq3, r4, if_true, if_false], by simp (decide := true) only [FX3_communicate, eA, a2, a3, isPlace9_1 hx, r1, h4, pl_vp hx, hv, isProc9_1 hp, pl_vp hq3, r4, if_true, if_false], _, by simp (decide := true) only [FX10_passesWords, g106 H, g107 H, g108 H, e6, e7, e8, eA, a1, isPlace10_1 hx, r2, r3, FX10_passesWords_b2, needs_ok one0, fb_46, h4, et, em, hv, isProc10_1 hp, et2, em2, FX10_passesWords_b7, FX10_passesWords_b10, m2, clears_e H, if_true, if_false] <;> rfl⟩
            · obtain ⟨m1, g', m2⟩ := words_b7_0 (n := n) (g := g) (y1 := th 0) (y2 := 0) (y3 := nI c) (y4 := reg 1) (y5 := reg 2) (y6 := mem (reg 1).toNatClampNeg) H (by decide)
              refine ⟨by simp (decide := true) only [OX3_communicate, eA, a2, a3, isPlace9_1 hx, r1, h4, pl_vp hx, hv, isProc9_0 hp, if_true, if_false, true_implies, false_implies, implies_true, not_true_eq_false, not_false_eq_true, and_true, true_and, and_self, or_true, true_or], by simp (decide := true) only [OX10_passesWords, og106 H, og107 H, og108 H, g106 H, g107 H, g108 H, e6, e7, e8, eA, a1, isPlace10_1 hx, r2, r3, OX10_passesWords_b2, needs_ok one0, fb_46, h4, oat H (Or.inl rfl), et, em, hv, oisP10, isProc10_0 hp, needs_bad, one0, m1, if_true, if_false, true_implies, false_implies, implies_true, not_true_eq_false, not_false_eq_true, and_true, true_and, and_self, or_true, true_or], ?_⟩
              refine Or.inr ⟨by simp (decide := true) only [FX3_communicate, eA, a2, a3, isPlace9_1 hx, r1, h4, hv, isProc9_0 hp, if_true, if_false], by simp (decide := true) only [FX3_communicate, eA, a2, a3, isPlace9_1 hx, r1, h4, hv, isProc9_0 hp, if_true, if_false], g', by simp (decide := true) only [FX10_passesWords, g106 H, g107 H, g108 H, e6, e7, e8, eA, a1, isPlace10_1 hx, r2, r3, FX10_passesWords_b2, needs_ok one0, fb_46, h4, et, em, hv, isProc10_0 hp, needs_bad, one0, m2, if_true, if_false]⟩
        · rcases pl4 hx h4 with e | e | e | e
          · obtain ⟨m1, m2, m3⟩ := link_00 (n := n) H hR hB c1 c8 hC
            have pe : isPl 0 := e ▸ hx
            rcases m3 with ⟨m3, g', m4, m5, m6⟩ | ⟨m3, m4⟩
            · refine ⟨by simp (decide := true) only [OX3_communicate, eA, a2, a3, e, isPlace9_1 pe, r1, h4, m1, m3, if_true, if_false, true_implies, false_implies, implies_true, not_true_eq_false, not_false_eq_true, and_true, true_and, and_self, or_true, true_or], by simp (decide := true) only [OX10_passesWords, og106 H, og107 H, og108 H, g106 H, g107 H, g108 H, e6, e7, e8, eA, a1, e, isPlace10_1 pe, r2, r3, OX10_passesWords_b2, needs_ok one0, fb_46, m2, m4, oclears H, if_true, if_false, true_implies, false_implies, implies_true, not_true_eq_false, not_false_eq_true, and_true, true_and, and_self, or_true, true_or], ?_⟩
              refine Or.inl ⟨by simp (decide := true) only [FX3_communicate, eA, a2, a3, e, isPlace9_1 pe, r1, h4, m3, if_true, if_false], n, _, by simp (decide := true) only [FX10_passesWords, g106 H, g107 H, g108 H, e6, e7, e8, eA, a1, e, isPlace10_1 pe, r2, r3, FX10_passesWords_b2, needs_ok one0, fb_46, m4, clears_e H, if_true, if_false] <;> rfl, ?_⟩
              simp (decide := true) only [FX3_communicate, eA, a2, a3, e, isPlace9_1 pe, r1, h4, if_true, if_false]
              exact ⟨RM_gclr m5 m6, RD_c hd (Nat.le_succ _) (fun _ _ => rfl), Keep.refl⟩
            · refine ⟨by simp (decide := true) only [OX3_communicate, eA, a2, a3, e, isPlace9_1 pe, r1, h4, m1, m3, if_true, if_false, true_implies, false_implies, implies_true, not_true_eq_false, not_false_eq_true, and_true, true_and, and_self, or_true, true_or], by simp (decide := true) only [OX10_passesWords, og106 H, og107 H, og108 H, g106 H, g107 H, g108 H, e6, e7, e8, eA, a1, e, isPlace10_1 pe, r2, r3, OX10_passesWords_b2, needs_ok one0, fb_46, m2, m4, oclears H, if_true, if_false, true_implies, false_implies, implies_true, not_true_eq_false, not_false_eq_true, and_true, true_and, and_self, or_true, true_or], ?_⟩
              refine Or.inr ⟨by simp (decide := true) only [FX3_communicate, eA, a2, a3, e, isPlace9_1 pe, r1, h4, m3, if_true, if_false], by simp (decide := true) only [FX3_communicate, eA, a2, a3, e, isPlace9_1 pe, r1, h4, m3, if_true, if_false], _, by simp (decide := true) only [FX10_passesWords, g106 H, g107 H, g108 H, e6, e7, e8, eA, a1, e, isPlace10_1 pe, r2, r3, FX10_passesWords_b2, needs_ok one0, fb_46, m4, clears_e H, if_true, if_false] <;> rfl⟩
          · obtain ⟨m1, m2, m3⟩ := link_10 (n := n) H hR hB c1 c8 hC
            have pe : isPl 1 := e ▸ hx
            rcases m3 with ⟨m3, g', m4, m5, m6⟩ | ⟨m3, m4⟩
            · refine ⟨by simp (decide := true) only [OX3_communicate, eA, a2, a3, e, isPlace9_1 pe, r1, h4, m1, m3, if_true, if_false, true_implies, false_implies, implies_true, not_true_eq_false, not_false_eq_true, and_true, true_and, and_self, or_true, true_or], by simp (decide := true) only [OX10_passesWords, og106 H, og107 H, og108 H, g106 H, g107 H, g108 H, e6, e7, e8, eA, a1, e, isPlace10_1 pe, r2, r3, OX10_passesWords_b2, needs_ok one0, fb_46, m2, m4, oclears H, if_true, if_false, true_implies, false_implies, implies_true, not_true_eq_false, not_false_eq_true, and_true, true_and, and_self, or_true, true_or], ?_⟩
              refine Or.inl ⟨by simp (decide := true) only [FX3_communicate, eA, a2, a3, e, isPlace9_1 pe, r1, h4, m3, if_true, if_false], n, _, by simp (decide := true) only [FX10_passesWords, g106 H, g107 H, g108 H, e6, e7, e8, eA, a1, e, isPlace10_1 pe, r2, r3, FX10_passesWords_b2, needs_ok one0, fb_46, m4, clears_e H, if_true, if_false] <;> rfl, ?_⟩
              simp (decide := true) only [FX3_communicate, eA, a2, a3, e, isPlace9_1 pe, r1, h4, if_true, if_false]
              exact ⟨RM_gclr m5 m6, RD_c hd (Nat.le_succ _) (fun _ _ => rfl), Keep.refl⟩
            · refine ⟨by simp (decide := true) only [OX3_communicate, eA, a2, a3, e, isPlace9_1 pe, r1, h4, m1, m3, if_true, if_false, true_implies, false_implies, implies_true, not_true_eq_false, not_false_eq_true, and_true, true_and, and_self, or_true, true_or], by simp (decide := true) only [OX10_passesWords, og106 H, og107 H, og108 H, g106 H, g107 H, g108 H, e6, e7, e8, eA, a1, e, isPlace10_1 pe, r2, r3, OX10_passesWords_b2, needs_ok one0, fb_46, m2, m4, oclears H, if_true, if_false, true_implies, false_implies, implies_true, not_true_eq_false, not_false_eq_true, and_true, true_and, and_self, or_true, true_or], ?_⟩
              refine Or.inr ⟨by simp (decide := true) only [FX3_communicate, eA, a2, a3, e, isPlace9_1 pe, r1, h4, m3, if_true, if_false], by simp (decide := true) only [FX3_communicate, eA, a2, a3, e, isPlace9_1 pe, r1, h4, m3, if_true, if_false], _, by simp (decide := true) only [FX10_passesWords, g106 H, g107 H, g108 H, e6, e7, e8, eA, a1, e, isPlace10_1 pe, r2, r3, FX10_passesWords_b2, needs_ok one0, fb_46, m4, clears_e H, if_true, if_false] <;> rfl⟩
          · obtain ⟨m1, m2, m3⟩ := link_20 (n := n) H hR hB c1 c8 hC
            have pe : isPl 2 := e ▸ hx
            rcases m3 with ⟨m3, g', m4, m5, m6⟩ | ⟨m3, m4⟩
            · refine ⟨by simp (decide := true) only [OX3_communicate, eA, a2, a3, e, isPlace9_1 pe, r1, h4, m1, m3, if_true, if_false, true_implies, false_implies, implies_true, not_true_eq_false, not_false_eq_true, and_true, true_and, and_self, or_true, true_or], by simp (decide := true) only [OX10_passesWords, og106 H, og107 H, og108 H, g106 H, g107 H, g108 H, e6, e7, e8, eA, a1, e, isPlace10_1 pe, r2, r3, OX10_passesWords_b2, needs_ok one0, fb_46, m2, m4, oclears H, if_true, if_false, true_implies, false_implies, implies_true, not_true_eq_false, not_false_eq_true, and_true, true_and, and_self, or_true, true_or], ?_⟩
              refine Or.inl ⟨by simp (decide := true) only [FX3_communicate, eA, a2, a3, e, isPlace9_1 pe, r1, h4, m3, if_true, if_false], n, _, by simp (decide := true) only [FX10_passesWords, g106 H, g107 H, g108 H, e6, e7, e8, eA, a1, e, isPlace10_1 pe, r2, r3, FX10_passesWords_b2, needs_ok one0, fb_46, m4, clears_e H, if_true, if_false] <;> rfl, ?_⟩
              simp (decide := true) only [FX3_communicate, eA, a2, a3, e, isPlace9_1 pe, r1, h4, if_true, if_false]
              exact ⟨RM_gclr m5 m6, RD_c hd (Nat.le_succ _) (fun _ _ => rfl), Keep.refl⟩
            · refine ⟨by simp (decide := true) only [OX3_communicate, eA, a2, a3, e, isPlace9_1 pe, r1, h4, m1, m3, if_true, if_false, true_implies, false_implies, implies_true, not_true_eq_false, not_false_eq_true, and_true, true_and, and_self, or_true, true_or], by simp (decide := true) only [OX10_passesWords, og106 H, og107 H, og108 H, g106 H, g107 H, g108 H, e6, e7, e8, eA, a1, e, isPlace10_1 pe, r2, r3, OX10_passesWords_b2, needs_ok one0, fb_46, m2, m4, oclears H, if_true, if_false, true_implies, false_implies, implies_true, not_true_eq_false, not_false_eq_true, and_true, true_and, and_self, or_true, true_or], ?_⟩
              refine Or.inr ⟨by simp (decide := true) only [FX3_communicate, eA, a2, a3, e, isPlace9_1 pe, r1, h4, m3, if_true, if_false], by simp (decide := true) only [FX3_communicate, eA, a2, a3, e, isPlace9_1 pe, r1, h4, m3, if_true, if_false], _, by simp (decide := true) only [FX10_passesWords, g106 H, g107 H, g108 H, e6, e7, e8, eA, a1, e, isPlace10_1 pe, r2, r3, FX10_passesWords_b2, needs_ok one0, fb_46, m4, clears_e H, if_true, if_false] <;> rfl⟩
          · obtain ⟨m1, m2, m3⟩ := link_30 (n := n) H hR hB c1 c8 hC
            have pe : isPl 3 := e ▸ hx
            rcases m3 with ⟨m3, g', m4, m5, m6⟩ | ⟨m3, m4⟩
            · refine ⟨by simp (decide := true) only [OX3_communicate, eA, a2, a3, e, isPlace9_1 pe, r1, h4, m1, m3, if_true, if_false, true_implies, false_implies, implies_true, not_true_eq_false, not_false_eq_true, and_true, true_and, and_self, or_true, true_or], by simp (decide := true) only [OX10_passesWords, og106 H, og107 H, og108 H, g106 H, g107 H, g108 H, e6, e7, e8, eA, a1, e, isPlace10_1 pe, r2, r3, OX10_passesWords_b2, needs_ok one0, fb_46, m2, m4, oclears H, if_true, if_false, true_implies, false_implies, implies_true, not_true_eq_false, not_false_eq_true, and_true, true_and, and_self, or_true, true_or], ?_⟩
              refine Or.inl ⟨by simp (decide := true) only [FX3_communicate, eA, a2, a3, e, isPlace9_1 pe, r1, h4, m3, if_true, if_false], n, _, by simp (decide := true) only [FX10_passesWords, g106 H, g107 H, g108 H, e6, e7, e8, eA, a1, e, isPlace10_1 pe, r2, r3, FX10_passesWords_b2, needs_ok one0, fb_46, m4, clears_e H, if_true, if_false] <;> rfl, ?_⟩
              simp (decide := true) only [FX3_communicate, eA, a2, a3, e, isPlace9_1 pe, r1, h4, if_true, if_false]
              exact ⟨RM_gclr m5 m6, RD_c hd (Nat.le_succ _) (fun _ _ => rfl), Keep.refl⟩
            · refine ⟨by simp (decide := true) only [OX3_communicate, eA, a2, a3, e, isPlace9_1 pe, r1, h4, m1, m3, if_true, if_false, true_implies, false_implies, implies_true, not_true_eq_false, not_false_eq_true, and_true, true_and, and_self, or_true, true_or], by simp (decide := true) only [OX10_passesWords, og106 H, og107 H, og108 H, g106 H, g107 H, g108 H, e6, e7, e8, eA, a1, e, isPlace10_1 pe, r2, r3, OX10_passesWords_b2, needs_ok one0, fb_46, m2, m4, oclears H, if_true, if_false, true_implies, false_implies, implies_true, not_true_eq_false, not_false_eq_true, and_true, true_and, and_self, or_true, true_or], ?_⟩
              refine Or.inr ⟨by simp (decide := true) only [FX3_communicate, eA, a2, a3, e, isPlace9_1 pe, r1, h4, m3, if_true, if_false], by simp (decide := true) only [FX3_communicate, eA, a2, a3, e, isPlace9_1 pe, r1, h4, m3, if_true, if_false], _, by simp (decide := true) only [FX10_passesWords, g106 H, g107 H, g108 H, e6, e7, e8, eA, a1, e, isPlace10_1 pe, r2, r3, FX10_passesWords_b2, needs_ok one0, fb_46, m4, clears_e H, if_true, if_false] <;> rfl⟩
      · have r1 := ar_0 (show c ≤ 96 by omega) hC
        by_cases hC2 : isPl (reg 2)
        · have r3 : FX10_isPlace ((reg 2 + nI c) - 1) = 0 := by
            rw [ar_e c1 hC2]
            exact isPlace10_0 (ar_no c1 c8 hC hC2)
          refine ⟨by simp (decide := true) only [OX3_communicate, eA, a2, a3, isPlace9_1 hx, r1, if_true, if_false, true_implies, false_implies, implies_true, not_true_eq_false, not_false_eq_true, and_true, true_and, and_self, or_true, true_or], by simp (decide := true) only [OX10_passesWords, og106 H, og107 H, og108 H, g106 H, g107 H, g108 H, e6, e7, e8, eA, a1, isPlace10_1 hx, isPlace10_1 hC2, r3, b20, if_true, if_false, true_implies, false_implies, implies_true, not_true_eq_false, not_false_eq_true, and_true, true_and, and_self, or_true, true_or], ?_⟩
          refine Or.inr ⟨by simp (decide := true) only [FX3_communicate, eA, a2, a3, isPlace9_1 hx, r1, if_true, if_false], by simp (decide := true) only [FX3_communicate, eA, a2, a3, isPlace9_1 hx, r1, if_true, if_false], g, by simp (decide := true) only [FX10_passesWords, g106 H, g107 H, g108 H, e6, e7, e8, eA, a1, isPlace10_1 hx, isPlace10_1 hC2, r3, b20, if_true, if_false]⟩
        · skip
          refine ⟨by simp (decide := true) only [OX3_communicate, eA, a2, a3, isPlace9_1 hx, r1, if_true, if_false, true_implies, false_implies, implies_true, not_true_eq_false, not_false_eq_true, and_true, true_and, and_self, or_true, true_or], by simp (decide := true) only [OX10_passesWords, og106 H, og107 H, og108 H, g106 H, g107 H, g108 H, e6, e7, e8, eA, a1, isPlace10_1 hx, isPlace10_0 hC2, b20, if_true, if_false, true_implies, false_implies, implies_true, not_true_eq_false, not_false_eq_true, and_true, true_and, and_self, or_true, true_or], ?_⟩
          refine Or.inr ⟨by simp (decide := true) only [FX3_communicate, eA, a2, a3, isPlace9_1 hx, r1, if_true, if_false], by simp (decide := true) only [FX3_communicate, eA, a2, a3, isPlace9_1 hx, r1, if_true, if_false], g, by simp (decide := true) only [FX10_passesWords, g106 H, g107 H, g108 H, e6, e7, e8, eA, a1, isPlace10_1 hx, isPlace10_0 hC2, b20, if_true, if_false]⟩
    · skip
      refine ⟨by simp (decide := true) only [OX3_communicate, eA, a2, a3, isPlace9_0 hx, if_true, if_false, true_implies, false_implies, implies_true, not_true_eq_false, not_false_eq_true, and_true, true_and, and_self, or_true, true_or], by simp (decide := true) only [OX10_passesWords, og106 H, og107 H, og108 H, g106 H, g107 H, g108 H, e6, e7, e8, eA, a1, isPlace10_0 hx, b20, if_true, if_false, true_implies, false_implies, implies_true, not_true_eq_false, not_false_eq_true, and_true, true_and, and_self, or_true, true_or], ?_⟩
      refine Or.inr ⟨by simp (decide := true) only [FX3_communicate, eA, a2, a3, isPlace9_0 hx, if_true, if_false], by simp (decide := true) only [FX3_communicate, eA, a2, a3, isPlace9_0 hx, if_true, if_false], g, by simp (decide := true) only [FX10_passesWords, g106 H, g107 H, g108 H, e6, e7, e8, eA, a1, isPlace10_0 hx, b20, if_true, if_false]⟩
  · obtain ⟨a1, a2⟩ := isIn_0 (a := 1) (c := 8) (by decide) (by decide) hA
    have a1 : FX10_isIn (reg 0) 1 8 = 0 := a1
    have a2 : reg 0 < 1 ∨ 8 < reg 0 := a2
    by_cases a3 : reg 0 < 1
    · skip
      refine ⟨by simp (decide := true) only [OX3_communicate, a3, if_true, if_false, true_implies, false_implies, implies_true, not_true_eq_false, not_false_eq_true, and_true, true_and, and_self, or_true, true_or], by simp (decide := true) only [OX10_passesWords, og106 H, og107 H, og108 H, g106 H, g107 H, g108 H, e6, e7, e8, a1, b20, if_true, if_false, true_implies, false_implies, implies_true, not_true_eq_false, not_false_eq_true, and_true, true_and, and_self, or_true, true_or], ?_⟩
      refine Or.inr ⟨by simp (decide := true) only [FX3_communicate, a3, if_true, if_false], by simp (decide := true) only [FX3_communicate, a3, if_true, if_false], g, by simp (decide := true) only [FX10_passesWords, g106 H, g107 H, g108 H, e6, e7, e8, a1, b20, if_true, if_false]⟩
    · have a4 : 8 < reg 0 := a2.resolve_left a3
      refine ⟨by simp (decide := true) only [OX3_communicate, a3, a4, if_true, if_false, true_implies, false_implies, implies_true, not_true_eq_false, not_false_eq_true, and_true, true_and, and_self, or_true, true_or], by simp (decide := true) only [OX10_passesWords, og106 H, og107 H, og108 H, g106 H, g107 H, g108 H, e6, e7, e8, a1, b20, if_true, if_false, true_implies, false_implies, implies_true, not_true_eq_false, not_false_eq_true, and_true, true_and, and_self, or_true, true_or], ?_⟩
      refine Or.inr ⟨by simp (decide := true) only [FX3_communicate, a3, a4, if_true, if_false], by simp (decide := true) only [FX3_communicate, a3, a4, if_true, if_false], g, by simp (decide := true) only [FX10_passesWords, g106 H, g107 H, g108 H, e6, e7, e8, a1, b20, if_true, if_false]⟩
theorem p_comm1 (H : Hb f b) (h : RO reg mem tz tp tt tb l0 l1 g) {T : Nat} (hT : T < 2 ^ 30) (hd : RD dia mt n T) {th : mF} : OX3_communicate 1 th reg mem tz tp tt tb l0 l1 dia mt ∧ OX10_passesWords (th 0) 1 (fb f 0) (emb b n g) ∧ ResC (FX3_communicate 1 th reg mem tz tp tt tb l0 l1 dia mt) (FX10_passesWords (th 0) 1 (fb f 0) (emb b n g)) f b n mem tz tp tt tb l0 l1 dia mt T := by
  have e6 : g 106 = reg 0 := h.1.2.2.2.2.2.2.1
  have e7 : g 107 = reg 1 := h.1.2.2.2.2.2.2.2.1
  have e8 : g 108 = reg 2 := h.1.2.2.2.2.2.2.2.2.1
  have hR := RW_clr h.1.w
  have hB := RB0_clr h.2
  have b20 := fun y1 y2 y3 y4 y5 m => @words_b2_0 f y1 y2 y3 y4 y5 m
  by_cases hA : ∃ c : Nat, 1 ≤ c ∧ c ≤ 8 ∧ reg 0 = nI c
  · obtain ⟨c, c1, c8, eA⟩ := hA
    obtain ⟨a1, a2, a3⟩ := isIn_1 (a := 1) (c := 8) (by decide) (by decide) c1 c8 rfl
    have a1 : FX10_isIn (nI c) 1 8 = 1 := a1
    have a2 : ¬ nI c < 1 := a2
    have a3 : ¬ 8 < nI c := a3
    by_cases hx : isPl (reg 1)
    · by_cases hC : isAr (reg 2) c
      · have r1 := ar_1 (show c ≤ 96 by omega) hC
        have r2 := isPlace10_1 (hC.pl0 c1)
        have r3 : FX10_isPlace ((reg 2 + nI c) - 1) = 1 := by
          rw [ar_e c1 (hC.pl0 c1)]
          exact isPlace10_1 (hC.pl (by omega))
        have xc := (pl_cl hx).1
        by_cases h4 : (4 : Int32) ≤ reg 1
        · have et := at_ok (n := n) (g := g) H hx
          have em := h.2.1 _ xc
          by_cases hv : mem (reg 1).toNatClampNeg = -1
          · obtain ⟨w1, w2, g', w3, w4, w5⟩ := p_wait (n := n) (c := reg 2) H hR hB hx
            refine ⟨by simp (decide := true) only [OX3_communicate, eA, a2, a3, isPlace9_1 hx, r1, h4, pl_vp hx, hv, w1, if_true, if_false, true_implies, false_implies, implies_true, not_true_eq_false, not_false_eq_true, and_true, true_and, and_self, or_true, true_or], by simp (decide := true) only [OX10_passesWords, og106 H, og107 H, og108 H, g106 H, g107 H, g108 H, e6, e7, e8, eA, a1, isPlace10_1 hx, r2, r3, OX10_passesWords_b2, needs_ok one0, fb_46, h4, oat H (Or.inl rfl), et, em, hv, w2, w3, oclears H, if_true, if_false, true_implies, false_implies, implies_true, not_true_eq_false, not_false_eq_true, and_true, true_and, and_self, or_true, true_or], ?_⟩
            refine Or.inl ⟨by simp (decide := true) only [FX3_communicate, eA, a2, a3, isPlace9_1 hx, r1, h4, hv, if_true, if_false], n, _, by simp (decide := true) only [FX10_passesWords, g106 H, g107 H, g108 H, e6, e7, e8, eA, a1, isPlace10_1 hx, r2, r3, FX10_passesWords_b2, needs_ok one0, fb_46, h4, et, em, hv, w3, clears_e H, if_true, if_false] <;> rfl, ?_⟩
            simp (decide := true) only [FX3_communicate, eA, a2, a3, isPlace9_1 hx, r1, h4, hv, if_true, if_false]
            exact ⟨RM_gclr w4 w5, RD_c hd (Nat.le_succ _) (fun _ _ => rfl), Keep.refl⟩
          · by_cases hp : isP (mem (reg 1).toNatClampNeg)
            · have hq3 := wS3 (pW hp)
              have et2 := at_ok (n := n) (g := g) H hq3
              have em2 := h.2.1 _ (pl_cl hq3).1
              by_cases q2 : mem (mem (reg 1).toNatClampNeg / 2 - 3).toNatClampNeg = -2
              · have al := (p_alert (tz := tz) (tp := tp) (tt := tt) (tb := tb) (reg := (FX3_clear reg).2) h.2.1 hp).2.1 q2
                have el := lay_ok (n := n) (g := g) (v := -4) H hq3
                obtain ⟨w1, w2, g', w3, w4, w5⟩ := p_wait (n := n) (c := reg 2) H (RW_m (x := -4) (pl_cl hq3).1 hR) (RB0_m (x := -4) (pl_cl hq3).1 hB) hx
                refine ⟨by simp (decide := true) only [OX3_communicate, eA, a2, a3, isPlace9_1 hx, r1, h4, pl_vp hx, hv, isProc9_1 hp, pl_vp hq3, q2, al.1, al.2, w1, if_true, if_false, true_implies, false_implies, implies_true, not_true_eq_false, not_false_eq_true, and_true, true_and, and_self, or_true, true_or], by simp (decide := true) only [OX10_passesWords, og106 H, og107 H, og108 H, g106 H, g107 H, g108 H, e6, e7, e8, eA, a1, isPlace10_1 hx, r2, r3, OX10_passesWords_b2, needs_ok one0, fb_46, h4, oat H (Or.inl rfl), et, em, hv, oisP10, isProc10_1 hp, et2, em2, OX10_passesWords_b7, OX10_passesWords_b10, FX10_passesWords_b7, FX10_passesWords_b10, q2, isIn4_1, olay H (Or.inl rfl), el, w2, w3, oclears H, if_true, if_false, true_implies, false_implies, implies_true, not_true_eq_false, not_false_eq_true, and_true, true_and, and_self, or_true, true_or], ?_⟩
                refine Or.inl ⟨by simp (decide := true) only [FX3_communicate, eA, a2, a3, isPlace9_1 hx, r1, h4, pl_vp hx, hv, isProc9_1 hp, pl_vp hq3, q2, al.2, if_true, if_false], n, _, by simp (decide := true) only [FX10_passesWords, g106 H, g107 H, g108 H, e6, e7, e8, eA, a1, isPlace10_1 hx, r2, r3, FX10_passesWords_b2, needs_ok one0, fb_46, h4, et, em, hv, isProc10_1 hp, et2, em2, FX10_passesWords_b7, FX10_passesWords_b10, q2, isIn4_1, el, w3, clears_e H, if_true, if_false] <;> rfl, ?_⟩
                simp (decide := true) only [FX3_communicate, eA, a2, a3, isPlace9_1 hx, r1, h4, pl_vp hx, hv, isProc9_1 hp, pl_vp hq3, q2, al.2, if_true, if_false]
                exact ⟨RM_gclr w4 w5, RD_c hd (Nat.le_succ _) (fun _ _ => rfl), Keep.refl⟩
              · skip
                by_cases q3 : mem (mem (reg 1).toNatClampNeg / 2 - 3).toNatClampNeg = -3
                · have al := (p_alert (tz := tz) (tp := tp) (tt := tt) (tb := tb) (reg := (FX3_clear reg).2) h.2.1 hp).1 q3
                  have el := lay_ok (n := n) (g := g) (v := -4) H hq3
                  have hB4 := RB0_m (x := -4) (pl_cl hq3).1 hB
                  obtain ⟨k1, k2, g2, k3, k4, k5, k6, k7, k8⟩ := p_wake (n := n) H hB4.1 hB4.2.1 hB4.2.2.2.2.1 hp
                  have hR5 : RW _ g2 := RW_c (RW_m (x := -4) (pl_cl hq3).1 hR) (fun k a c => k8 k (by omega)) (fun k a c _ _ _ => k7 k (by omega))
                  have hB5 : RB0 _ _ _ _ _ _ l0 l1 g2 := RB0_wk hB4 k4 k5 k6 k7 k8
                  obtain ⟨w1, w2, g', w3, w4, w5⟩ := p_wait (n := n) (c := reg 2) H hR5 hB5 hx
                  refine ⟨by simp (decide := true) only [OX3_communicate, eA, a2, a3, isPlace9_1 hx, r1, h4, pl_vp hx, hv, isProc9_1 hp, pl_vp hq3, q2, q3, al.1, al.2, k1, w1, if_true, if_false, true_implies, false_implies, implies_true, not_true_eq_false, not_false_eq_true, and_true, true_and, and_self, or_true, true_or], by simp (decide := true) only [OX10_passesWords, og106 H, og107 H, og108 H, g106 H, g107 H, g108 H, e6, e7, e8, eA, a1, isPlace10_1 hx, r2, r3, OX10_passesWords_b2, needs_ok one0, fb_46, h4, oat H (Or.inl rfl), et, em, hv, oisP10, isProc10_1 hp, et2, em2, OX10_passesWords_b7, OX10_passesWords_b10, FX10_passesWords_b7, FX10_passesWords_b10, q2, q3, isIn4_1, olay H (Or.inl rfl), el, k2, k3, w2, w3, oclears H, if_true, if_false, true_implies, false_implies, implies_true, not_true_eq_false, not_false_eq_true, and_true, true_and, and_self, or_true, true_or], ?_⟩
                  refine Or.inl ⟨by simp (decide := true) only [FX3_communicate, eA, a2, a3, isPlace9_1 hx, r1, h4, pl_vp hx, hv, isProc9_1 hp, pl_vp hq3, q2, q3, al.2, if_true, if_false], n, _, by simp (decide := true) only [FX10_passesWords, g106 H, g107 H, g108 H, e6, e7, e8, eA, a1, isPlace10_1 hx, r2, r3, FX10_passesWords_b2, needs_ok one0, fb_46, h4, et, em, hv, isProc10_1 hp, et2, em2, FX10_passesWords_b7, FX10_passesWords_b10, q2, q3, isIn4_1, el, k3, w3, clears_e H, if_true, if_false] <;> rfl, ?_⟩
                  simp (decide := true) only [FX3_communicate, eA, a2, a3, isPlace9_1 hx, r1, h4, pl_vp hx, hv, isProc9_1 hp, pl_vp hq3, q2, q3, al.2, if_true, if_false]
                  exact ⟨RM_gclr w4 w5, RD_c hd (Nat.le_succ _) (fun _ _ => rfl), Keep.refl⟩
                · skip
                  by_cases q4 : mem (mem (reg 1).toNatClampNeg / 2 - 3).toNatClampNeg = -4
                  · have al := (p_alert (tz := tz) (tp := tp) (tt := tt) (tb := tb) (reg := (FX3_clear reg).2) h.2.1 hp).2.2 q3 q2
                    obtain ⟨w1, w2, g', w3, w4, w5⟩ := p_wait (n := n) (c := reg 2) H hR hB hx
                    refine ⟨by simp (decide := true) only [OX3_communicate, eA, a2, a3, isPlace9_1 hx, r1, h4, pl_vp hx, hv, isProc9_1 hp, pl_vp hq3, q4, al.1, al.2, w1, if_true, if_false, true_implies, false_implies, implies_true, not_true_eq_false, not_false_eq_true, and_true, true_and, and_self, or_true, true_or], by simp (decide := true) only [OX10_passesWords, og106 H, og107 H, og108 H, g106 H, g107 H, g108 H, e6, e7, e8, eA, a1, isPlace10_1 hx, r2, r3, OX10_passesWords_b2, needs_ok one0, fb_46, h4, oat H (Or.inl rfl), et, em, hv, oisP10, isProc10_1 hp, et2, em2, OX10_passesWords_b7, OX10_passesWords_b10, FX10_passesWords_b7, FX10_passesWords_b10, q4, isIn4_1, w2, w3, oclears H, if_true, if_false, true_implies, false_implies, implies_true, not_true_eq_false, not_false_eq_true, and_true, true_and, and_self, or_true, true_or], ?_⟩
                    refine Or.inl ⟨by simp (decide := true) only [FX3_communicate, eA, a2, a3, isPlace9_1 hx, r1, h4, pl_vp hx, hv, isProc9_1 hp, pl_vp hq3, q4, al.2, if_true, if_false], n, _, by simp (decide := true) only [FX10_passesWords, g106 H, g107 H, g108 H, e6, e7, e8, eA, a1, isPlace10_1 hx, r2, r3, FX10_passesWords_b2, needs_ok one0, fb_46, h4, et, em, hv, isProc10_1 hp, et2, em2, FX10_passesWords_b7, FX10_passesWords_b10, q4, isIn4_1, w3, clears_e H, if_true, if_false] <;> rfl, ?_⟩
                    simp (decide := true) only [FX3_communicate, eA, a2, a3, isPlace9_1 hx, r1, h4, pl_vp hx, hv, isProc9_1 hp, pl_vp hq3, q4, al.2, if_true, if_false]
                    exact ⟨RM_gclr w4 w5, RD_c hd (Nat.le_succ _) (fun _ _ => rfl), Keep.refl⟩
                  · have qi := isIn4 q2 q3 q4
                    by_cases hq : isAr (mem (mem (reg 1).toNatClampNeg / 2 - 3).toNatClampNeg) c
                    · obtain ⟨m1, m2, n', g', m3, m4, m5, m6, m7, m8⟩ := p_meet_s (n := n) (dia := dia) (mt := mt) (dir := 1) (th := th) H hR hB hT hd one0 hp hx c1 hC hq rfl
                      have r4 := ar_1 (show c ≤ 96 by omega) hq
                      refine ⟨by simp (decide := true) only [OX3_communicate, eA, a2, a3, isPlace9_1 hx, r1, h4, pl_vp hx, hv, isProc9_1 hp, pl_vp hq3, q2, q3, q4, r4, m1, if_true, if_false, true_implies, false_implies, implies_true, not_true_eq_false, not_false_eq_true, and_true, true_and, and_self, or_true, true_or], by simp (decide := true) only [OX10_passesWords, og106 H, og107 H, og108 H, g106 H, g107 H, g108 H, e6, e7, e8, eA, a1, isPlace10_1 hx, r2, r3, OX10_passesWords_b2, needs_ok one0, fb_46, h4, oat H (Or.inl rfl), et, em, hv, oisP10, isProc10_1 hp, et2, em2, OX10_passesWords_b7, OX10_passesWords_b10, FX10_passesWords_b7, FX10_passesWords_b10, qi, m2, m3, oclears H, if_true, if_false, true_implies, false_implies, implies_true, not_true_eq_false, not_false_eq_true, and_true, true_and, and_self, or_true, true_or], ?_⟩
                      refine Or.inl ⟨by simp (decide := true) only [FX3_communicate, eA, a2, a3, isPlace9_1 hx, r1, h4, pl_vp hx, hv, isProc9_1 hp, pl_vp hq3, q2, q3, q4, r4, if_true, if_false], n', _, by simp (decide := true) only [FX10_passesWords, g106 H, g107 H, g108 H, e6, e7, e8, eA, a1, isPlace10_1 hx, r2, r3, FX10_passesWords_b2, needs_ok one0, fb_46, h4, et, em, hv, isProc10_1 hp, et2, em2, FX10_passesWords_b7, FX10_passesWords_b10, qi, m3, clears_e H, if_true, if_false] <;> rfl, ?_⟩
                      simp (decide := true) only [FX3_communicate, eA, a2, a3, isPlace9_1 hx, r1, h4, pl_vp hx, hv, isProc9_1 hp, pl_vp hq3, q2, q3, q4, r4, if_true, if_false]
                      exact ⟨RM.cl m4 m5 (fun k hk => (m8 k hk).trans (clr3 k hk)), m6, m7⟩
                    · have r4 := ar_0 (show c ≤ 96 by omega) hq
                      obtain ⟨m1, g', m2⟩ := cps_no (n := n) (g := g) (x1 := th 0) (x2 := reg 1) (x3 := mem (reg 1).toNatClampNeg) (x4 := reg 2) (x7 := 1) H c1 c8 (Or.inr hq)
                      refine ⟨by simp (decide := true) only [OX3_communicate, eA, a2, a3, isPlace9_1 hx, r1, h4, pl_vp hx, hv, isProc9_1 hp, pl_vp hq3, q2, q3, q4, r4, if_true, if_false, true_implies, false_implies, implies_true, not_true_eq_false, not_false_eq_true, and_true, true_and, and_self, or_true, true_or], by simp (decide := true) only [OX10_passesWords, og106 H, og107 H, og108 H, g106 H, g107 H, g108 H, e6, e7, e8, eA, a1, isPlace10_1 hx, r2, r3, OX10_passesWords_b2, needs_ok one0, fb_46, h4, oat H (Or.inl rfl), et, em, hv, oisP10, isProc10_1 hp, et2, em2, OX10_passesWords_b7, OX10_passesWords_b10, FX10_passesWords_b7, FX10_passesWords_b10, qi, m1, m2, oclears H, if_true, if_false, true_implies, false_implies, implies_true, not_true_eq_false, not_false_eq_true, and_true, true_and, and_self, or_true, true_or], ?_⟩
                      refine Or.inr ⟨by simp (decide := true) only [FX3_communicate, eA, a2, a3, isPlace9_1 hx, r1, h4, pl_vp hx, hv, isProc9_1 hp, pl_vp hq3, q2, q3, q4, r4, if_true, if_false], by simp (decide := true) only [FX3_communicate, eA, a2, a3, isPlace9_1 hx, r1, h4, pl_vp hx, hv, isProc9_1 hp, pl_vp hq3, q2, q3, q4, r4, if_true, if_false], _, by simp (decide := true) only [FX10_passesWords, g106 H, g107 H, g108 H, e6, e7, e8, eA, a1, isPlace10_1 hx, r2, r3, FX10_passesWords_b2, needs_ok one0, fb_46, h4, et, em, hv, isProc10_1 hp, et2, em2, FX10_passesWords_b7, FX10_passesWords_b10, qi, m2, clears_e H, if_true, if_false] <;> rfl⟩
            · obtain ⟨m1, g', m2⟩ := words_b7_0 (n := n) (g := g) (y1 := th 0) (y2 := 1) (y3 := nI c) (y4 := reg 1) (y5 := reg 2) (y6 := mem (reg 1).toNatClampNeg) H (by decide)
              refine ⟨by simp (decide := true) only [OX3_communicate, eA, a2, a3, isPlace9_1 hx, r1, h4, pl_vp hx, hv, isProc9_0 hp, if_true, if_false, true_implies, false_implies, implies_true, not_true_eq_false, not_false_eq_true, and_true, true_and, and_self, or_true, true_or], by simp (decide := true) only [OX10_passesWords, og106 H, og107 H, og108 H, g106 H, g107 H, g108 H, e6, e7, e8, eA, a1, isPlace10_1 hx, r2, r3, OX10_passesWords_b2, needs_ok one0, fb_46, h4, oat H (Or.inl rfl), et, em, hv, oisP10, isProc10_0 hp, needs_bad, one0, m1, if_true, if_false, true_implies, false_implies, implies_true, not_true_eq_false, not_false_eq_true, and_true, true_and, and_self, or_true, true_or], ?_⟩
              refine Or.inr ⟨by simp (decide := true) only [FX3_communicate, eA, a2, a3, isPlace9_1 hx, r1, h4, hv, isProc9_0 hp, if_true, if_false], by simp (decide := true) only [FX3_communicate, eA, a2, a3, isPlace9_1 hx, r1, h4, hv, isProc9_0 hp, if_true, if_false], g', by simp (decide := true) only [FX10_passesWords, g106 H, g107 H, g108 H, e6, e7, e8, eA, a1, isPlace10_1 hx, r2, r3, FX10_passesWords_b2, needs_ok one0, fb_46, h4, et, em, hv, isProc10_0 hp, needs_bad, one0, m2, if_true, if_false]⟩
        · rcases pl4 hx h4 with e | e | e | e
          · obtain ⟨m1, m2, m3⟩ := link_01 (n := n) H hR hB c1 c8 hC
            have pe : isPl 0 := e ▸ hx
            rcases m3 with ⟨m3, g', m4, m5, m6⟩ | ⟨m3, m4⟩
            · refine ⟨by simp (decide := true) only [OX3_communicate, eA, a2, a3, e, isPlace9_1 pe, r1, h4, m1, m3, if_true, if_false, true_implies, false_implies, implies_true, not_true_eq_false, not_false_eq_true, and_true, true_and, and_self, or_true, true_or], by simp (decide := true) only [OX10_passesWords, og106 H, og107 H, og108 H, g106 H, g107 H, g108 H, e6, e7, e8, eA, a1, e, isPlace10_1 pe, r2, r3, OX10_passesWords_b2, needs_ok one0, fb_46, m2, m4, oclears H, if_true, if_false, true_implies, false_implies, implies_true, not_true_eq_false, not_false_eq_true, and_true, true_and, and_self, or_true, true_or], ?_⟩
              refine Or.inl ⟨by simp (decide := true) only [FX3_communicate, eA, a2, a3, e, isPlace9_1 pe, r1, h4, m3, if_true, if_false], n, _, by simp (decide := true) only [FX10_passesWords, g106 H, g107 H, g108 H, e6, e7, e8, eA, a1, e, isPlace10_1 pe, r2, r3, FX10_passesWords_b2, needs_ok one0, fb_46, m4, clears_e H, if_true, if_false] <;> rfl, ?_⟩
              simp (decide := true) only [FX3_communicate, eA, a2, a3, e, isPlace9_1 pe, r1, h4, if_true, if_false]
              exact ⟨RM_gclr m5 m6, RD_c hd (Nat.le_succ _) (fun _ _ => rfl), Keep.refl⟩
            · refine ⟨by simp (decide := true) only [OX3_communicate, eA, a2, a3, e, isPlace9_1 pe, r1, h4, m1, m3, if_true, if_false, true_implies, false_implies, implies_true, not_true_eq_false, not_false_eq_true, and_true, true_and, and_self, or_true, true_or], by simp (decide := true) only [OX10_passesWords, og106 H, og107 H, og108 H, g106 H, g107 H, g108 H, e6, e7, e8, eA, a1, e, isPlace10_1 pe, r2, r3, OX10_passesWords_b2, needs_ok one0, fb_46, m2, m4, oclears H, if_true, if_false, true_implies, false_implies, implies_true, not_true_eq_false, not_false_eq_true, and_true, true_and, and_self, or_true, true_or], ?_⟩
              refine Or.inr ⟨by simp (decide := true) only [FX3_communicate, eA, a2, a3, e, isPlace9_1 pe, r1, h4, m3, if_true, if_false], by simp (decide := true) only [FX3_communicate, eA, a2, a3, e, isPlace9_1 pe, r1, h4, m3, if_true, if_false], _, by simp (decide := true) only [FX10_passesWords, g106 H, g107 H, g108 H, e6, e7, e8, eA, a1, e, isPlace10_1 pe, r2, r3, FX10_passesWords_b2, needs_ok one0, fb_46, m4, clears_e H, if_true, if_false] <;> rfl⟩
          · obtain ⟨m1, m2, m3⟩ := link_11 (n := n) H hR hB c1 c8 hC
            have pe : isPl 1 := e ▸ hx
            rcases m3 with ⟨m3, g', m4, m5, m6⟩ | ⟨m3, m4⟩
            · refine ⟨by simp (decide := true) only [OX3_communicate, eA, a2, a3, e, isPlace9_1 pe, r1, h4, m1, m3, if_true, if_false, true_implies, false_implies, implies_true, not_true_eq_false, not_false_eq_true, and_true, true_and, and_self, or_true, true_or], by simp (decide := true) only [OX10_passesWords, og106 H, og107 H, og108 H, g106 H, g107 H, g108 H, e6, e7, e8, eA, a1, e, isPlace10_1 pe, r2, r3, OX10_passesWords_b2, needs_ok one0, fb_46, m2, m4, oclears H, if_true, if_false, true_implies, false_implies, implies_true, not_true_eq_false, not_false_eq_true, and_true, true_and, and_self, or_true, true_or], ?_⟩
              refine Or.inl ⟨by simp (decide := true) only [FX3_communicate, eA, a2, a3, e, isPlace9_1 pe, r1, h4, m3, if_true, if_false], n, _, by simp (decide := true) only [FX10_passesWords, g106 H, g107 H, g108 H, e6, e7, e8, eA, a1, e, isPlace10_1 pe, r2, r3, FX10_passesWords_b2, needs_ok one0, fb_46, m4, clears_e H, if_true, if_false] <;> rfl, ?_⟩
              simp (decide := true) only [FX3_communicate, eA, a2, a3, e, isPlace9_1 pe, r1, h4, if_true, if_false]
              exact ⟨RM_gclr m5 m6, RD_c hd (Nat.le_succ _) (fun _ _ => rfl), Keep.refl⟩
            · refine ⟨by simp (decide := true) only [OX3_communicate, eA, a2, a3, e, isPlace9_1 pe, r1, h4, m1, m3, if_true, if_false, true_implies, false_implies, implies_true, not_true_eq_false, not_false_eq_true, and_true, true_and, and_self, or_true, true_or], by simp (decide := true) only [OX10_passesWords, og106 H, og107 H, og108 H, g106 H, g107 H, g108 H, e6, e7, e8, eA, a1, e, isPlace10_1 pe, r2, r3, OX10_passesWords_b2, needs_ok one0, fb_46, m2, m4, oclears H, if_true, if_false, true_implies, false_implies, implies_true, not_true_eq_false, not_false_eq_true, and_true, true_and, and_self, or_true, true_or], ?_⟩
              refine Or.inr ⟨by simp (decide := true) only [FX3_communicate, eA, a2, a3, e, isPlace9_1 pe, r1, h4, m3, if_true, if_false], by simp (decide := true) only [FX3_communicate, eA, a2, a3, e, isPlace9_1 pe, r1, h4, m3, if_true, if_false], _, by simp (decide := true) only [FX10_passesWords, g106 H, g107 H, g108 H, e6, e7, e8, eA, a1, e, isPlace10_1 pe, r2, r3, FX10_passesWords_b2, needs_ok one0, fb_46, m4, clears_e H, if_true, if_false] <;> rfl⟩
          · obtain ⟨m1, m2, m3⟩ := link_21 (n := n) H hR hB c1 c8 hC
            have pe : isPl 2 := e ▸ hx
            rcases m3 with ⟨m3, g', m4, m5, m6⟩ | ⟨m3, m4⟩
            · refine ⟨by simp (decide := true) only [OX3_communicate, eA, a2, a3, e, isPlace9_1 pe, r1, h4, m1, m3, if_true, if_false, true_implies, false_implies, implies_true, not_true_eq_false, not_false_eq_true, and_true, true_and, and_self, or_true, true_or], by simp (decide := true) only [OX10_passesWords, og106 H, og107 H, og108 H, g106 H, g107 H, g108 H, e6, e7, e8, eA, a1, e, isPlace10_1 pe, r2, r3, OX10_passesWords_b2, needs_ok one0, fb_46, m2, m4, oclears H, if_true, if_false, true_implies, false_implies, implies_true, not_true_eq_false, not_false_eq_true, and_true, true_and, and_self, or_true, true_or], ?_⟩
              refine Or.inl ⟨by simp (decide := true) only [FX3_communicate, eA, a2, a3, e, isPlace9_1 pe, r1, h4, m3, if_true, if_false], n, _, by simp (decide := true) only [FX10_passesWords, g106 H, g107 H, g108 H, e6, e7, e8, eA, a1, e, isPlace10_1 pe, r2, r3, FX10_passesWords_b2, needs_ok one0, fb_46, m4, clears_e H, if_true, if_false] <;> rfl, ?_⟩
              simp (decide := true) only [FX3_communicate, eA, a2, a3, e, isPlace9_1 pe, r1, h4, if_true, if_false]
              exact ⟨RM_gclr m5 m6, RD_c hd (Nat.le_succ _) (fun _ _ => rfl), Keep.refl⟩
            · refine ⟨by simp (decide := true) only [OX3_communicate, eA, a2, a3, e, isPlace9_1 pe, r1, h4, m1, m3, if_true, if_false, true_implies, false_implies, implies_true, not_true_eq_false, not_false_eq_true, and_true, true_and, and_self, or_true, true_or], by simp (decide := true) only [OX10_passesWords, og106 H, og107 H, og108 H, g106 H, g107 H, g108 H, e6, e7, e8, eA, a1, e, isPlace10_1 pe, r2, r3, OX10_passesWords_b2, needs_ok one0, fb_46, m2, m4, oclears H, if_true, if_false, true_implies, false_implies, implies_true, not_true_eq_false, not_false_eq_true, and_true, true_and, and_self, or_true, true_or], ?_⟩
              refine Or.inr ⟨by simp (decide := true) only [FX3_communicate, eA, a2, a3, e, isPlace9_1 pe, r1, h4, m3, if_true, if_false], by simp (decide := true) only [FX3_communicate, eA, a2, a3, e, isPlace9_1 pe, r1, h4, m3, if_true, if_false], _, by simp (decide := true) only [FX10_passesWords, g106 H, g107 H, g108 H, e6, e7, e8, eA, a1, e, isPlace10_1 pe, r2, r3, FX10_passesWords_b2, needs_ok one0, fb_46, m4, clears_e H, if_true, if_false] <;> rfl⟩
          · obtain ⟨m1, m2, m3⟩ := link_31 (n := n) H hR hB c1 c8 hC
            have pe : isPl 3 := e ▸ hx
            rcases m3 with ⟨m3, g', m4, m5, m6⟩ | ⟨m3, m4⟩
            · refine ⟨by simp (decide := true) only [OX3_communicate, eA, a2, a3, e, isPlace9_1 pe, r1, h4, m1, m3, if_true, if_false, true_implies, false_implies, implies_true, not_true_eq_false, not_false_eq_true, and_true, true_and, and_self, or_true, true_or], by simp (decide := true) only [OX10_passesWords, og106 H, og107 H, og108 H, g106 H, g107 H, g108 H, e6, e7, e8, eA, a1, e, isPlace10_1 pe, r2, r3, OX10_passesWords_b2, needs_ok one0, fb_46, m2, m4, oclears H, if_true, if_false, true_implies, false_implies, implies_true, not_true_eq_false, not_false_eq_true, and_true, true_and, and_self, or_true, true_or], ?_⟩
              refine Or.inl ⟨by simp (decide := true) only [FX3_communicate, eA, a2, a3, e, isPlace9_1 pe, r1, h4, m3, if_true, if_false], n, _, by simp (decide := true) only [FX10_passesWords, g106 H, g107 H, g108 H, e6, e7, e8, eA, a1, e, isPlace10_1 pe, r2, r3, FX10_passesWords_b2, needs_ok one0, fb_46, m4, clears_e H, if_true, if_false] <;> rfl, ?_⟩
              simp (decide := true) only [FX3_communicate, eA, a2, a3, e, isPlace9_1 pe, r1, h4, if_true, if_false]
              exact ⟨RM_gclr m5 m6, RD_c hd (Nat.le_succ _) (fun _ _ => rfl), Keep.refl⟩
            · refine ⟨by simp (decide := true) only [OX3_communicate, eA, a2, a3, e, isPlace9_1 pe, r1, h4, m1, m3, if_true, if_false, true_implies, false_implies, implies_true, not_true_eq_false, not_false_eq_true, and_true, true_and, and_self, or_true, true_or], by simp (decide := true) only [OX10_passesWords, og106 H, og107 H, og108 H, g106 H, g107 H, g108 H, e6, e7, e8, eA, a1, e, isPlace10_1 pe, r2, r3, OX10_passesWords_b2, needs_ok one0, fb_46, m2, m4, oclears H, if_true, if_false, true_implies, false_implies, implies_true, not_true_eq_false, not_false_eq_true, and_true, true_and, and_self, or_true, true_or], ?_⟩
              refine Or.inr ⟨by simp (decide := true) only [FX3_communicate, eA, a2, a3, e, isPlace9_1 pe, r1, h4, m3, if_true, if_false], by simp (decide := true) only [FX3_communicate, eA, a2, a3, e, isPlace9_1 pe, r1, h4, m3, if_true, if_false], _, by simp (decide := true) only [FX10_passesWords, g106 H, g107 H, g108 H, e6, e7, e8, eA, a1, e, isPlace10_1 pe, r2, r3, FX10_passesWords_b2, needs_ok one0, fb_46, m4, clears_e H, if_true, if_false] <;> rfl⟩
      · have r1 := ar_0 (show c ≤ 96 by omega) hC
        by_cases hC2 : isPl (reg 2)
        · have r3 : FX10_isPlace ((reg 2 + nI c) - 1) = 0 := by
            rw [ar_e c1 hC2]
            exact isPlace10_0 (ar_no c1 c8 hC hC2)
          refine ⟨by simp (decide := true) only [OX3_communicate, eA, a2, a3, isPlace9_1 hx, r1, if_true, if_false, true_implies, false_implies, implies_true, not_true_eq_false, not_false_eq_true, and_true, true_and, and_self, or_true, true_or], by simp (decide := true) only [OX10_passesWords, og106 H, og107 H, og108 H, g106 H, g107 H, g108 H, e6, e7, e8, eA, a1, isPlace10_1 hx, isPlace10_1 hC2, r3, b20, if_true, if_false, true_implies, false_implies, implies_true, not_true_eq_false, not_false_eq_true, and_true, true_and, and_self, or_true, true_or], ?_⟩
          refine Or.inr ⟨by simp (decide := true) only [FX3_communicate, eA, a2, a3, isPlace9_1 hx, r1, if_true, if_false], by simp (decide := true) only [FX3_communicate, eA, a2, a3, isPlace9_1 hx, r1, if_true, if_false], g, by simp (decide := true) only [FX10_passesWords, g106 H, g107 H, g108 H, e6, e7, e8, eA, a1, isPlace10_1 hx, isPlace10_1 hC2, r3, b20, if_true, if_false]⟩
        · skip
          refine ⟨by simp (decide := true) only [OX3_communicate, eA, a2, a3, isPlace9_1 hx, r1, if_true, if_false, true_implies, false_implies, implies_true, not_true_eq_false, not_false_eq_true, and_true, true_and, and_self, or_true, true_or], by simp (decide := true) only [OX10_passesWords, og106 H, og107 H, og108 H, g106 H, g107 H, g108 H, e6, e7, e8, eA, a1, isPlace10_1 hx, isPlace10_0 hC2, b20, if_true, if_false, true_implies, false_implies, implies_true, not_true_eq_false, not_false_eq_true, and_true, true_and, and_self, or_true, true_or], ?_⟩
          refine Or.inr ⟨by simp (decide := true) only [FX3_communicate, eA, a2, a3, isPlace9_1 hx, r1, if_true, if_false], by simp (decide := true) only [FX3_communicate, eA, a2, a3, isPlace9_1 hx, r1, if_true, if_false], g, by simp (decide := true) only [FX10_passesWords, g106 H, g107 H, g108 H, e6, e7, e8, eA, a1, isPlace10_1 hx, isPlace10_0 hC2, b20, if_true, if_false]⟩
    · skip
      refine ⟨by simp (decide := true) only [OX3_communicate, eA, a2, a3, isPlace9_0 hx, if_true, if_false, true_implies, false_implies, implies_true, not_true_eq_false, not_false_eq_true, and_true, true_and, and_self, or_true, true_or], by simp (decide := true) only [OX10_passesWords, og106 H, og107 H, og108 H, g106 H, g107 H, g108 H, e6, e7, e8, eA, a1, isPlace10_0 hx, b20, if_true, if_false, true_implies, false_implies, implies_true, not_true_eq_false, not_false_eq_true, and_true, true_and, and_self, or_true, true_or], ?_⟩
      refine Or.inr ⟨by simp (decide := true) only [FX3_communicate, eA, a2, a3, isPlace9_0 hx, if_true, if_false], by simp (decide := true) only [FX3_communicate, eA, a2, a3, isPlace9_0 hx, if_true, if_false], g, by simp (decide := true) only [FX10_passesWords, g106 H, g107 H, g108 H, e6, e7, e8, eA, a1, isPlace10_0 hx, b20, if_true, if_false]⟩
  · obtain ⟨a1, a2⟩ := isIn_0 (a := 1) (c := 8) (by decide) (by decide) hA
    have a1 : FX10_isIn (reg 0) 1 8 = 0 := a1
    have a2 : reg 0 < 1 ∨ 8 < reg 0 := a2
    by_cases a3 : reg 0 < 1
    · skip
      refine ⟨by simp (decide := true) only [OX3_communicate, a3, if_true, if_false, true_implies, false_implies, implies_true, not_true_eq_false, not_false_eq_true, and_true, true_and, and_self, or_true, true_or], by simp (decide := true) only [OX10_passesWords, og106 H, og107 H, og108 H, g106 H, g107 H, g108 H, e6, e7, e8, a1, b20, if_true, if_false, true_implies, false_implies, implies_true, not_true_eq_false, not_false_eq_true, and_true, true_and, and_self, or_true, true_or], ?_⟩
      refine Or.inr ⟨by simp (decide := true) only [FX3_communicate, a3, if_true, if_false], by simp (decide := true) only [FX3_communicate, a3, if_true, if_false], g, by simp (decide := true) only [FX10_passesWords, g106 H, g107 H, g108 H, e6, e7, e8, a1, b20, if_true, if_false]⟩
    · have a4 : 8 < reg 0 := a2.resolve_left a3
      refine ⟨by simp (decide := true) only [OX3_communicate, a3, a4, if_true, if_false, true_implies, false_implies, implies_true, not_true_eq_false, not_false_eq_true, and_true, true_and, and_self, or_true, true_or], by simp (decide := true) only [OX10_passesWords, og106 H, og107 H, og108 H, g106 H, g107 H, g108 H, e6, e7, e8, a1, b20, if_true, if_false, true_implies, false_implies, implies_true, not_true_eq_false, not_false_eq_true, and_true, true_and, and_self, or_true, true_or], ?_⟩
      refine Or.inr ⟨by simp (decide := true) only [FX3_communicate, a3, a4, if_true, if_false], by simp (decide := true) only [FX3_communicate, a3, a4, if_true, if_false], g, by simp (decide := true) only [FX10_passesWords, g106 H, g107 H, g108 H, e6, e7, e8, a1, b20, if_true, if_false]⟩
end COM
