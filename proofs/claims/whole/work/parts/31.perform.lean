/-! PURE: an instruction (GENERATED, wip/gen/p/31.py) -/
/-- a program on both sides -/
def RPg (prg op num f fop farg : mF) : Prop := ∃ L : Nat, L ≤ 100 ∧ prg 1 = nI L ∧ f 33 = nI L ∧ ∀ k, k < L → fop k = op k ∧ farg k = num k ∧ ∃ j : Nat, j < 39 ∧ op k = nI j
def ResP (r : Int32 × mF × mF × mF × mF × mF × mF × mF × mF × mF × mF × mF) (m : Int32 × mF × mF) (th reg f : mF) (b : Nat) (n mem tz tp tt tb l0 l1 dia mt : mF) (T : Nat) : Prop :=
  (r.1 = 1 ∧ r.2.1 = upd th 7 (reg 5) ∧ ∃ n' g', m.2 = (fb f 0, emb b n' g') ∧ RM r.2.2.1 r.2.2.2.1 r.2.2.2.2.1 r.2.2.2.2.2.1 r.2.2.2.2.2.2.1 r.2.2.2.2.2.2.2.1 r.2.2.2.2.2.2.2.2.1 r.2.2.2.2.2.2.2.2.2.1 g' ∧ RD r.2.2.2.2.2.2.2.2.2.2.1 r.2.2.2.2.2.2.2.2.2.2.2 n' (T + 1) ∧ Keep b n n') ∨ (r.1 = 0 ∧ (r.2.1 = th ∨ r.2.1 = upd th 7 (reg 5)) ∧ r.2.2.2 = (mem, tz, tp, tt, tb, l0, l1, dia, mt) ∧ ∃ g', m.2 = (fb f 1, emb b n g'))
theorem Res6.z {r : Int32 × mF × mF × mF × mF × mF × mF} {m : Int32 × mF × mF} {f n mem tz tp tt tb l0 l1 : mF} {b : Nat} (h : Res6 r m f b n mem tz tp tt tb l0 l1) : r.1 = 0 ∨ r.1 = 1 := by
  rcases h with h | h
  · exact Or.inr h.1
  · exact Or.inl h.1
theorem ResG.z {r : Int32 × mF × mF × mF × mF × mF × mF × mF × mF} {m : Int32 × mF × mF} {f n mem tz tp tt tb l0 l1 : mF} {b : Nat} (h : ResG r m f b n mem tz tp tt tb l0 l1) : r.1 = 0 ∨ r.1 = 1 := by
  rcases h with h | h
  · exact Or.inr h.1
  · exact Or.inl h.1
theorem ResC.z {r : Int32 × mF × mF × mF × mF × mF × mF × mF × mF × mF × mF} {m : Int32 × mF × mF} {f n mem tz tp tt tb l0 l1 dia mt : mF} {b T : Nat} (h : ResC r m f b n mem tz tp tt tb l0 l1 dia mt T) : r.1 = 0 ∨ r.1 = 1 := by
  rcases h with h | h
  · exact Or.inr h.1
  · exact Or.inl h.1
theorem inPrg {x : Int32} {L : Nat} (hL : L ≤ 100) : (FX10_isIn x 0 (nI L - 1) = 1 ∧ ¬ x < 0 ∧ x < nI L ∧ ∃ k : Nat, k < L ∧ x = nI k) ∨ (FX10_isIn x 0 (nI L - 1) = 0 ∧ (x < 0 ∨ (¬ x < 0 ∧ ¬ x < nI L))) := by
  unfold FX10_isIn
  by_cases h1 : x < 0
  · rw [if_pos h1]
    exact Or.inr ⟨rfl, Or.inl h1⟩
  · rw [if_neg h1]
    obtain ⟨k, hk, rfl⟩ := nI_of h1
    rcases Nat.lt_or_ge k L with q | q
    · have e : nI L - 1 = nI (L - 1) := nI_sub (a := L) (c := 1) (by omega)
      rw [e, if_neg (nI_nlt (a := L - 1) (b := k) (by omega) (by omega))]
      exact Or.inl ⟨rfl, h1, nI_lt q (by omega), k, q, rfl⟩
    · have h2 : ¬ nI k < nI L := nI_nlt (a := k) (b := L) q (by omega)
      rw [if_pos]
      · exact Or.inr ⟨rfl, Or.inr ⟨h1, h2⟩⟩
      · rcases Nat.eq_zero_or_pos L with z | z
        · subst z
          have e : nI 0 - 1 = -1 := by decide
          rw [e]
          exact Int32.lt_of_lt_of_le (by decide) (nI_pos' hk)
        · have e : nI L - 1 = nI (L - 1) := nI_sub (a := L) (c := 1) (by omega)
          rw [e]
          exact nI_lt (by omega) hk
section PRF
variable {f n g reg mem tz tp tt tb l0 l1 dia mt th prg op num fop farg : mF} {b : Nat}
theorem p_perf {sl : Int32} (H : Hb f b) (h : RO reg mem tz tp tt tb l0 l1 g) (hs : n 348 = sl) {T : Nat} (hT : T < 2 ^ 30) (hd : RD dia mt n T) (hP : RPg prg op num f fop farg) : OX3_perform sl th reg mem tz tp tt tb l0 l1 dia mt prg op num ∧ OX10_does (th 0) (fb f 0) fop farg (emb b n g) ∧ ResP (FX3_perform sl th reg mem tz tp tt tb l0 l1 dia mt prg op num) (FX10_does (th 0) (fb f 0) fop farg (emb b n g)) th reg f b n mem tz tp tt tb l0 l1 dia mt T := by
  obtain ⟨L, hL, pL, fL, hp⟩ := hP
  have e3 : g 105 = reg 3 := h.1.2.2.2.2.2.1
  have e6 : g 109 = reg 6 := h.1.2.2.2.2.2.2.2.2.2
  have e33 : fb f 0 33 = nI L := (fb_ne (by decide)).trans fL
  rcases inPrg (x := reg 3) hL with ⟨a1, a2, a3, k, hk, ek⟩ | ⟨a1, a2⟩
  · obtain ⟨q1, q2, j, hj, q3⟩ := hp k hk
    have ck : (reg 3).toNatClampNeg = k := by rw [ek]; exact nI_clamp (by omega)
    have vk : vp_in (reg 3) 100 := by rw [ek]; exact vp_in_nI (by omega) (by decide)
    have h2 : RO (upd (upd reg 3 (reg 3 + 1)) 6 (reg 6 + 1)) mem tz tp tt tb l0 l1 (upd (upd g 109 (reg 6 + 1)) 105 (reg 3 + 1)) := by
      rw [upd_comm (show (3 : Nat) ≠ 6 by decide)]
      exact RO_I (RO_D h)
    have hth : upd th 7 (reg 5) 0 = th 0 := pk_un (by decide)
    have c10 : (10 : Int32) ≤ nI j ↔ 10 ≤ j := nI_leI (a := 10) (by decide) (by omega)
    have c18 : (18 : Int32) ≤ nI j ↔ 18 ≤ j := nI_leI (a := 18) (by decide) (by omega)
    have c25 : (25 : Int32) ≤ nI j ↔ 25 ≤ j := nI_leI (a := 25) (by decide) (by omega)
    have c27 : (27 : Int32) ≤ nI j ↔ 27 ≤ j := nI_leI (a := 27) (by decide) (by omega)
    have d25 : nI j = 25 ↔ j = 25 := nI_eq (b := 25) (by omega) (by decide)
    have d26 : nI j = 26 ↔ j = 26 := nI_eq (b := 26) (by omega) (by decide)
    rcases (show j < 10 ∨ (10 ≤ j ∧ j < 18) ∨ (18 ≤ j ∧ j < 25) ∨ j = 25 ∨ j = 26 ∨ (27 ≤ j ∧ j < 39) by omega) with z | z | z | z | z | z
    · skip
      obtain ⟨r1, r2, r3⟩ := p_told (n := n) (nn := num k) H h2 hs z rfl
      have rz := r3.z
      refine ⟨by simp (decide := true) only [OX3_perform, a2, a3, pL, ck, vk, q3, c10, c18, c25, d25, d26, show ¬ 10 ≤ j by omega, r1, rz, if_true, if_false, true_implies, false_implies, implies_true, not_true_eq_false, not_false_eq_true, and_true, true_and, and_self, or_true, true_or], by simp (decide := true) only [OX10_does, og105 H, g105 H, e3, e33, a1, needs_ok one0, fb_46, og109 H, g109 H, e6, os109 H, s109 H, os105 H, s105 H, ck, vk, q1, q2, q3, c10, c25, c27, d26, show ¬ 10 ≤ j by omega, r2, if_true, if_false, true_implies, false_implies, implies_true, not_true_eq_false, not_false_eq_true, and_true, true_and, and_self, or_true, true_or], ?_⟩
      rcases r3 with ⟨s1, g', s2, s3⟩ | ⟨s1, s2, g', s3⟩
      · refine Or.inl ⟨?_, ?_, n, g', ?_, ?_⟩
        · simp (decide := true) only [FX3_perform, a2, a3, pL, ck, vk, q3, c10, c18, c25, d25, d26, show ¬ 10 ≤ j by omega, if_true, if_false]; exact s1
        · simp (decide := true) only [FX3_perform, a2, a3, pL, ck, vk, q3, c10, c18, c25, d25, d26, show ¬ 10 ≤ j by omega, if_true, if_false]
        · simp (decide := true) only [FX10_does, g105 H, e3, e33, a1, needs_ok one0, fb_46, g109 H, e6, s109 H, s105 H, ck, q1, q2, q3, c10, c25, c27, d26, show ¬ 10 ≤ j by omega, if_true, if_false]; exact s2
        · simp (decide := true) only [FX3_perform, a2, a3, pL, ck, vk, q3, c10, c18, c25, d25, d26, show ¬ 10 ≤ j by omega, if_true, if_false]; exact ⟨s3, RD_c hd (Nat.le_succ _) (fun _ _ => rfl), Keep.refl⟩
      · refine Or.inr ⟨?_, ?_, ?_, g', ?_⟩
        · simp (decide := true) only [FX3_perform, a2, a3, pL, ck, vk, q3, c10, c18, c25, d25, d26, show ¬ 10 ≤ j by omega, if_true, if_false]; exact s1
        · simp (decide := true) only [FX3_perform, a2, a3, pL, ck, vk, q3, c10, c18, c25, d25, d26, show ¬ 10 ≤ j by omega, if_true, if_false]; exact Or.inr trivial
        · simp (decide := true) only [FX3_perform, a2, a3, pL, ck, vk, q3, c10, c18, c25, d25, d26, show ¬ 10 ≤ j by omega, if_true, if_false]; rw [s2]
        · simp (decide := true) only [FX10_does, g105 H, e3, e33, a1, needs_ok one0, fb_46, g109 H, e6, s109 H, s105 H, ck, q1, q2, q3, c10, c25, c27, d26, show ¬ 10 ≤ j by omega, if_true, if_false]; exact s3
    · skip
      obtain ⟨r1, r2, r3⟩ := p_words (n := n) H h2 z.1 z.2 rfl
      have rz := r3.z
      refine ⟨by simp (decide := true) only [OX3_perform, a2, a3, pL, ck, vk, q3, c10, c18, c25, d25, d26, show 10 ≤ j by omega, show ¬ 18 ≤ j by omega, show ¬ 25 ≤ j by omega, r1, rz, if_true, if_false, true_implies, false_implies, implies_true, not_true_eq_false, not_false_eq_true, and_true, true_and, and_self, or_true, true_or], by simp (decide := true) only [OX10_does, og105 H, g105 H, e3, e33, a1, needs_ok one0, fb_46, og109 H, g109 H, e6, os109 H, s109 H, os105 H, s105 H, ck, vk, q1, q2, q3, c10, c25, c27, d26, show 10 ≤ j by omega, show ¬ 18 ≤ j by omega, show ¬ 25 ≤ j by omega, r2, if_true, if_false, true_implies, false_implies, implies_true, not_true_eq_false, not_false_eq_true, and_true, true_and, and_self, or_true, true_or], ?_⟩
      rcases r3 with ⟨s1, g', s2, s3⟩ | ⟨s1, s2, g', s3⟩
      · refine Or.inl ⟨?_, ?_, n, g', ?_, ?_⟩
        · simp (decide := true) only [FX3_perform, a2, a3, pL, ck, vk, q3, c10, c18, c25, d25, d26, show 10 ≤ j by omega, show ¬ 18 ≤ j by omega, show ¬ 25 ≤ j by omega, if_true, if_false]; exact s1
        · simp (decide := true) only [FX3_perform, a2, a3, pL, ck, vk, q3, c10, c18, c25, d25, d26, show 10 ≤ j by omega, show ¬ 18 ≤ j by omega, show ¬ 25 ≤ j by omega, if_true, if_false]
        · simp (decide := true) only [FX10_does, g105 H, e3, e33, a1, needs_ok one0, fb_46, g109 H, e6, s109 H, s105 H, ck, q1, q2, q3, c10, c25, c27, d26, show 10 ≤ j by omega, show ¬ 18 ≤ j by omega, show ¬ 25 ≤ j by omega, if_true, if_false]; exact s2
        · simp (decide := true) only [FX3_perform, a2, a3, pL, ck, vk, q3, c10, c18, c25, d25, d26, show 10 ≤ j by omega, show ¬ 18 ≤ j by omega, show ¬ 25 ≤ j by omega, if_true, if_false]; exact ⟨s3, RD_c hd (Nat.le_succ _) (fun _ _ => rfl), Keep.refl⟩
      · refine Or.inr ⟨?_, ?_, ?_, g', ?_⟩
        · simp (decide := true) only [FX3_perform, a2, a3, pL, ck, vk, q3, c10, c18, c25, d25, d26, show 10 ≤ j by omega, show ¬ 18 ≤ j by omega, show ¬ 25 ≤ j by omega, if_true, if_false]; exact s1
        · simp (decide := true) only [FX3_perform, a2, a3, pL, ck, vk, q3, c10, c18, c25, d25, d26, show 10 ≤ j by omega, show ¬ 18 ≤ j by omega, show ¬ 25 ≤ j by omega, if_true, if_false]; exact Or.inr trivial
        · simp (decide := true) only [FX3_perform, a2, a3, pL, ck, vk, q3, c10, c18, c25, d25, d26, show 10 ≤ j by omega, show ¬ 18 ≤ j by omega, show ¬ 25 ≤ j by omega, if_true, if_false]; rw [s2]
        · simp (decide := true) only [FX10_does, g105 H, e3, e33, a1, needs_ok one0, fb_46, g109 H, e6, s109 H, s105 H, ck, q1, q2, q3, c10, c25, c27, d26, show 10 ≤ j by omega, show ¬ 18 ≤ j by omega, show ¬ 25 ≤ j by omega, if_true, if_false]; exact s3
    · skip
      obtain ⟨r1, r2, r3⟩ := p_proc (n := n) H h2 z.1 z.2 rfl
      have rz := r3.z
      refine ⟨by simp (decide := true) only [OX3_perform, a2, a3, pL, ck, vk, q3, c10, c18, c25, d25, d26, show 10 ≤ j by omega, show 18 ≤ j by omega, show ¬ 25 ≤ j by omega, show ¬ j = 25 by omega, show ¬ j = 26 by omega, r1, rz, if_true, if_false, true_implies, false_implies, implies_true, not_true_eq_false, not_false_eq_true, and_true, true_and, and_self, or_true, true_or], by simp (decide := true) only [OX10_does, og105 H, g105 H, e3, e33, a1, needs_ok one0, fb_46, og109 H, g109 H, e6, os109 H, s109 H, os105 H, s105 H, ck, vk, q1, q2, q3, c10, c25, c27, d26, show 10 ≤ j by omega, show 18 ≤ j by omega, show ¬ 25 ≤ j by omega, show ¬ j = 25 by omega, show ¬ j = 26 by omega, r2, if_true, if_false, true_implies, false_implies, implies_true, not_true_eq_false, not_false_eq_true, and_true, true_and, and_self, or_true, true_or], ?_⟩
      rcases r3 with ⟨s1, g', s2, s3⟩ | ⟨s1, s2, g', s3⟩
      · refine Or.inl ⟨?_, ?_, n, g', ?_, ?_⟩
        · simp (decide := true) only [FX3_perform, a2, a3, pL, ck, vk, q3, c10, c18, c25, d25, d26, show 10 ≤ j by omega, show 18 ≤ j by omega, show ¬ 25 ≤ j by omega, show ¬ j = 25 by omega, show ¬ j = 26 by omega, if_true, if_false]; exact s1
        · simp (decide := true) only [FX3_perform, a2, a3, pL, ck, vk, q3, c10, c18, c25, d25, d26, show 10 ≤ j by omega, show 18 ≤ j by omega, show ¬ 25 ≤ j by omega, show ¬ j = 25 by omega, show ¬ j = 26 by omega, if_true, if_false]
        · simp (decide := true) only [FX10_does, g105 H, e3, e33, a1, needs_ok one0, fb_46, g109 H, e6, s109 H, s105 H, ck, q1, q2, q3, c10, c25, c27, d26, show 10 ≤ j by omega, show 18 ≤ j by omega, show ¬ 25 ≤ j by omega, show ¬ j = 25 by omega, show ¬ j = 26 by omega, if_true, if_false]; exact s2
        · simp (decide := true) only [FX3_perform, a2, a3, pL, ck, vk, q3, c10, c18, c25, d25, d26, show 10 ≤ j by omega, show 18 ≤ j by omega, show ¬ 25 ≤ j by omega, show ¬ j = 25 by omega, show ¬ j = 26 by omega, if_true, if_false]; exact ⟨s3, RD_c hd (Nat.le_succ _) (fun _ _ => rfl), Keep.refl⟩
      · refine Or.inr ⟨?_, ?_, ?_, g', ?_⟩
        · simp (decide := true) only [FX3_perform, a2, a3, pL, ck, vk, q3, c10, c18, c25, d25, d26, show 10 ≤ j by omega, show 18 ≤ j by omega, show ¬ 25 ≤ j by omega, show ¬ j = 25 by omega, show ¬ j = 26 by omega, if_true, if_false]; exact s1
        · simp (decide := true) only [FX3_perform, a2, a3, pL, ck, vk, q3, c10, c18, c25, d25, d26, show 10 ≤ j by omega, show 18 ≤ j by omega, show ¬ 25 ≤ j by omega, show ¬ j = 25 by omega, show ¬ j = 26 by omega, if_true, if_false]; exact Or.inr trivial
        · simp (decide := true) only [FX3_perform, a2, a3, pL, ck, vk, q3, c10, c18, c25, d25, d26, show 10 ≤ j by omega, show 18 ≤ j by omega, show ¬ 25 ≤ j by omega, show ¬ j = 25 by omega, show ¬ j = 26 by omega, if_true, if_false]; rw [s2]
        · simp (decide := true) only [FX10_does, g105 H, e3, e33, a1, needs_ok one0, fb_46, g109 H, e6, s109 H, s105 H, ck, q1, q2, q3, c10, c25, c27, d26, show 10 ≤ j by omega, show 18 ≤ j by omega, show ¬ 25 ≤ j by omega, show ¬ j = 25 by omega, show ¬ j = 26 by omega, if_true, if_false]; exact s3
    · subst z
      obtain ⟨r1, r2, r3⟩ := p_comm0 (n := n) (th := upd th 7 (reg 5)) H h2 hT hd
      rw [hth] at r2 r3
      have rz := r3.z
      refine ⟨by simp (decide := true) only [OX3_perform, a2, a3, pL, ck, vk, q3, c10, c18, c25, d25, d26, show 10 ≤ 25 by omega, show 18 ≤ 25 by omega, show 25 ≤ 25 by omega, show ¬ 27 ≤ 25 by omega, show ¬ 25 = 26 by omega, r1, rz, if_true, if_false, true_implies, false_implies, implies_true, not_true_eq_false, not_false_eq_true, and_true, true_and, and_self, or_true, true_or], by simp (decide := true) only [OX10_does, og105 H, g105 H, e3, e33, a1, needs_ok one0, fb_46, og109 H, g109 H, e6, os109 H, s109 H, os105 H, s105 H, ck, vk, q1, q2, q3, c10, c25, c27, d26, show 10 ≤ 25 by omega, show 18 ≤ 25 by omega, show 25 ≤ 25 by omega, show ¬ 27 ≤ 25 by omega, show ¬ 25 = 26 by omega, r2, if_true, if_false, true_implies, false_implies, implies_true, not_true_eq_false, not_false_eq_true, and_true, true_and, and_self, or_true, true_or], ?_⟩
      rcases r3 with ⟨s1, n', g', s2, s3, s4, s5⟩ | ⟨s1, s2, g', s3⟩
      · refine Or.inl ⟨?_, ?_, n', g', ?_, ?_⟩
        · simp (decide := true) only [FX3_perform, a2, a3, pL, ck, vk, q3, c10, c18, c25, d25, d26, show 10 ≤ 25 by omega, show 18 ≤ 25 by omega, show 25 ≤ 25 by omega, show ¬ 27 ≤ 25 by omega, show ¬ 25 = 26 by omega, if_true, if_false]; exact s1
        · simp (decide := true) only [FX3_perform, a2, a3, pL, ck, vk, q3, c10, c18, c25, d25, d26, show 10 ≤ 25 by omega, show 18 ≤ 25 by omega, show 25 ≤ 25 by omega, show ¬ 27 ≤ 25 by omega, show ¬ 25 = 26 by omega, if_true, if_false]
        · simp (decide := true) only [FX10_does, g105 H, e3, e33, a1, needs_ok one0, fb_46, g109 H, e6, s109 H, s105 H, ck, q1, q2, q3, c10, c25, c27, d26, show 10 ≤ 25 by omega, show 18 ≤ 25 by omega, show 25 ≤ 25 by omega, show ¬ 27 ≤ 25 by omega, show ¬ 25 = 26 by omega, if_true, if_false]; exact s2
        · simp (decide := true) only [FX3_perform, a2, a3, pL, ck, vk, q3, c10, c18, c25, d25, d26, show 10 ≤ 25 by omega, show 18 ≤ 25 by omega, show 25 ≤ 25 by omega, show ¬ 27 ≤ 25 by omega, show ¬ 25 = 26 by omega, if_true, if_false]; exact ⟨s3, s4, s5⟩
      · refine Or.inr ⟨?_, ?_, ?_, g', ?_⟩
        · simp (decide := true) only [FX3_perform, a2, a3, pL, ck, vk, q3, c10, c18, c25, d25, d26, show 10 ≤ 25 by omega, show 18 ≤ 25 by omega, show 25 ≤ 25 by omega, show ¬ 27 ≤ 25 by omega, show ¬ 25 = 26 by omega, if_true, if_false]; exact s1
        · simp (decide := true) only [FX3_perform, a2, a3, pL, ck, vk, q3, c10, c18, c25, d25, d26, show 10 ≤ 25 by omega, show 18 ≤ 25 by omega, show 25 ≤ 25 by omega, show ¬ 27 ≤ 25 by omega, show ¬ 25 = 26 by omega, if_true, if_false]; exact Or.inr trivial
        · simp (decide := true) only [FX3_perform, a2, a3, pL, ck, vk, q3, c10, c18, c25, d25, d26, show 10 ≤ 25 by omega, show 18 ≤ 25 by omega, show 25 ≤ 25 by omega, show ¬ 27 ≤ 25 by omega, show ¬ 25 = 26 by omega, if_true, if_false]; rw [s2]
        · simp (decide := true) only [FX10_does, g105 H, e3, e33, a1, needs_ok one0, fb_46, g109 H, e6, s109 H, s105 H, ck, q1, q2, q3, c10, c25, c27, d26, show 10 ≤ 25 by omega, show 18 ≤ 25 by omega, show 25 ≤ 25 by omega, show ¬ 27 ≤ 25 by omega, show ¬ 25 = 26 by omega, if_true, if_false]; exact s3
    · subst z
      obtain ⟨r1, r2, r3⟩ := p_comm1 (n := n) (th := upd th 7 (reg 5)) H h2 hT hd
      rw [hth] at r2 r3
      have rz := r3.z
      refine ⟨by simp (decide := true) only [OX3_perform, a2, a3, pL, ck, vk, q3, c10, c18, c25, d25, d26, show 10 ≤ 26 by omega, show 18 ≤ 26 by omega, show 25 ≤ 26 by omega, show ¬ 27 ≤ 26 by omega, show ¬ 26 = 25 by omega, r1, rz, if_true, if_false, true_implies, false_implies, implies_true, not_true_eq_false, not_false_eq_true, and_true, true_and, and_self, or_true, true_or], by simp (decide := true) only [OX10_does, og105 H, g105 H, e3, e33, a1, needs_ok one0, fb_46, og109 H, g109 H, e6, os109 H, s109 H, os105 H, s105 H, ck, vk, q1, q2, q3, c10, c25, c27, d26, show 10 ≤ 26 by omega, show 18 ≤ 26 by omega, show 25 ≤ 26 by omega, show ¬ 27 ≤ 26 by omega, show ¬ 26 = 25 by omega, r2, if_true, if_false, true_implies, false_implies, implies_true, not_true_eq_false, not_false_eq_true, and_true, true_and, and_self, or_true, true_or], ?_⟩
      rcases r3 with ⟨s1, n', g', s2, s3, s4, s5⟩ | ⟨s1, s2, g', s3⟩
      · refine Or.inl ⟨?_, ?_, n', g', ?_, ?_⟩
        · simp (decide := true) only [FX3_perform, a2, a3, pL, ck, vk, q3, c10, c18, c25, d25, d26, show 10 ≤ 26 by omega, show 18 ≤ 26 by omega, show 25 ≤ 26 by omega, show ¬ 27 ≤ 26 by omega, show ¬ 26 = 25 by omega, if_true, if_false]; exact s1
        · simp (decide := true) only [FX3_perform, a2, a3, pL, ck, vk, q3, c10, c18, c25, d25, d26, show 10 ≤ 26 by omega, show 18 ≤ 26 by omega, show 25 ≤ 26 by omega, show ¬ 27 ≤ 26 by omega, show ¬ 26 = 25 by omega, if_true, if_false]
        · simp (decide := true) only [FX10_does, g105 H, e3, e33, a1, needs_ok one0, fb_46, g109 H, e6, s109 H, s105 H, ck, q1, q2, q3, c10, c25, c27, d26, show 10 ≤ 26 by omega, show 18 ≤ 26 by omega, show 25 ≤ 26 by omega, show ¬ 27 ≤ 26 by omega, show ¬ 26 = 25 by omega, if_true, if_false]; exact s2
        · simp (decide := true) only [FX3_perform, a2, a3, pL, ck, vk, q3, c10, c18, c25, d25, d26, show 10 ≤ 26 by omega, show 18 ≤ 26 by omega, show 25 ≤ 26 by omega, show ¬ 27 ≤ 26 by omega, show ¬ 26 = 25 by omega, if_true, if_false]; exact ⟨s3, s4, s5⟩
      · refine Or.inr ⟨?_, ?_, ?_, g', ?_⟩
        · simp (decide := true) only [FX3_perform, a2, a3, pL, ck, vk, q3, c10, c18, c25, d25, d26, show 10 ≤ 26 by omega, show 18 ≤ 26 by omega, show 25 ≤ 26 by omega, show ¬ 27 ≤ 26 by omega, show ¬ 26 = 25 by omega, if_true, if_false]; exact s1
        · simp (decide := true) only [FX3_perform, a2, a3, pL, ck, vk, q3, c10, c18, c25, d25, d26, show 10 ≤ 26 by omega, show 18 ≤ 26 by omega, show 25 ≤ 26 by omega, show ¬ 27 ≤ 26 by omega, show ¬ 26 = 25 by omega, if_true, if_false]; exact Or.inr trivial
        · simp (decide := true) only [FX3_perform, a2, a3, pL, ck, vk, q3, c10, c18, c25, d25, d26, show 10 ≤ 26 by omega, show 18 ≤ 26 by omega, show 25 ≤ 26 by omega, show ¬ 27 ≤ 26 by omega, show ¬ 26 = 25 by omega, if_true, if_false]; rw [s2]
        · simp (decide := true) only [FX10_does, g105 H, e3, e33, a1, needs_ok one0, fb_46, g109 H, e6, s109 H, s105 H, ck, q1, q2, q3, c10, c25, c27, d26, show 10 ≤ 26 by omega, show 18 ≤ 26 by omega, show 25 ≤ 26 by omega, show ¬ 27 ≤ 26 by omega, show ¬ 26 = 25 by omega, if_true, if_false]; exact s3
    · skip
      obtain ⟨r1, r2, r3⟩ := p_guard (n := n) H h2 z.1 z.2 rfl
      have rz := r3.z
      refine ⟨by simp (decide := true) only [OX3_perform, a2, a3, pL, ck, vk, q3, c10, c18, c25, d25, d26, show 10 ≤ j by omega, show 18 ≤ j by omega, show 25 ≤ j by omega, show 27 ≤ j by omega, show ¬ j = 25 by omega, show ¬ j = 26 by omega, r1, rz, if_true, if_false, true_implies, false_implies, implies_true, not_true_eq_false, not_false_eq_true, and_true, true_and, and_self, or_true, true_or], by simp (decide := true) only [OX10_does, og105 H, g105 H, e3, e33, a1, needs_ok one0, fb_46, og109 H, g109 H, e6, os109 H, s109 H, os105 H, s105 H, ck, vk, q1, q2, q3, c10, c25, c27, d26, show 10 ≤ j by omega, show 18 ≤ j by omega, show 25 ≤ j by omega, show 27 ≤ j by omega, show ¬ j = 25 by omega, show ¬ j = 26 by omega, r2, if_true, if_false, true_implies, false_implies, implies_true, not_true_eq_false, not_false_eq_true, and_true, true_and, and_self, or_true, true_or], ?_⟩
      rcases r3 with ⟨s1, g', s2, s3⟩ | ⟨s1, s2, g', s3⟩
      · refine Or.inl ⟨?_, ?_, n, g', ?_, ?_⟩
        · simp (decide := true) only [FX3_perform, a2, a3, pL, ck, vk, q3, c10, c18, c25, d25, d26, show 10 ≤ j by omega, show 18 ≤ j by omega, show 25 ≤ j by omega, show 27 ≤ j by omega, show ¬ j = 25 by omega, show ¬ j = 26 by omega, if_true, if_false]; exact s1
        · simp (decide := true) only [FX3_perform, a2, a3, pL, ck, vk, q3, c10, c18, c25, d25, d26, show 10 ≤ j by omega, show 18 ≤ j by omega, show 25 ≤ j by omega, show 27 ≤ j by omega, show ¬ j = 25 by omega, show ¬ j = 26 by omega, if_true, if_false]
        · simp (decide := true) only [FX10_does, g105 H, e3, e33, a1, needs_ok one0, fb_46, g109 H, e6, s109 H, s105 H, ck, q1, q2, q3, c10, c25, c27, d26, show 10 ≤ j by omega, show 18 ≤ j by omega, show 25 ≤ j by omega, show 27 ≤ j by omega, show ¬ j = 25 by omega, show ¬ j = 26 by omega, if_true, if_false]; exact s2
        · simp (decide := true) only [FX3_perform, a2, a3, pL, ck, vk, q3, c10, c18, c25, d25, d26, show 10 ≤ j by omega, show 18 ≤ j by omega, show 25 ≤ j by omega, show 27 ≤ j by omega, show ¬ j = 25 by omega, show ¬ j = 26 by omega, if_true, if_false]; exact ⟨s3, RD_c hd (Nat.le_succ _) (fun _ _ => rfl), Keep.refl⟩
      · refine Or.inr ⟨?_, ?_, ?_, g', ?_⟩
        · simp (decide := true) only [FX3_perform, a2, a3, pL, ck, vk, q3, c10, c18, c25, d25, d26, show 10 ≤ j by omega, show 18 ≤ j by omega, show 25 ≤ j by omega, show 27 ≤ j by omega, show ¬ j = 25 by omega, show ¬ j = 26 by omega, if_true, if_false]; exact s1
        · simp (decide := true) only [FX3_perform, a2, a3, pL, ck, vk, q3, c10, c18, c25, d25, d26, show 10 ≤ j by omega, show 18 ≤ j by omega, show 25 ≤ j by omega, show 27 ≤ j by omega, show ¬ j = 25 by omega, show ¬ j = 26 by omega, if_true, if_false]; exact Or.inr trivial
        · simp (decide := true) only [FX3_perform, a2, a3, pL, ck, vk, q3, c10, c18, c25, d25, d26, show 10 ≤ j by omega, show 18 ≤ j by omega, show 25 ≤ j by omega, show 27 ≤ j by omega, show ¬ j = 25 by omega, show ¬ j = 26 by omega, if_true, if_false]; rw [s2]
        · simp (decide := true) only [FX10_does, g105 H, e3, e33, a1, needs_ok one0, fb_46, g109 H, e6, s109 H, s105 H, ck, q1, q2, q3, c10, c25, c27, d26, show 10 ≤ j by omega, show 18 ≤ j by omega, show 25 ≤ j by omega, show 27 ≤ j by omega, show ¬ j = 25 by omega, show ¬ j = 26 by omega, if_true, if_false]; exact s3
  · have m1 : FX10_does (th 0) (fb f 0) fop farg (emb b n g) = (0, fb f 1, emb b n g) := by simp (decide := true) only [FX10_does, g105 H, e3, e33, a1, needs_bad, fb_46, if_true, if_false]
    have m2 : OX10_does (th 0) (fb f 0) fop farg (emb b n g) := by simp (decide := true) only [OX10_does, og105 H, g105 H, e3, e33, a1, needs_bad, fb_46, if_true, if_false, true_implies, false_implies, implies_true, not_true_eq_false, not_false_eq_true, and_true, true_and, and_self, or_true, true_or]
    rcases a2 with a2 | ⟨a2, a3⟩
    · refine ⟨by simp (decide := true) only [OX3_perform, a2, if_true, if_false, true_implies, false_implies, implies_true, not_true_eq_false, not_false_eq_true, and_true, true_and, and_self, or_true, true_or], m2, Or.inr ⟨?_, ?_, ?_, g, by rw [m1]⟩⟩
      · simp (decide := true) only [FX3_perform, a2, if_true, if_false]
      · simp (decide := true) only [FX3_perform, a2, if_true, if_false]; exact Or.inl trivial
      · simp (decide := true) only [FX3_perform, a2, if_true, if_false]
    · refine ⟨by simp (decide := true) only [OX3_perform, a2, pL, a3, if_true, if_false, true_implies, false_implies, implies_true, not_true_eq_false, not_false_eq_true, and_true, true_and, and_self, or_true, true_or], m2, Or.inr ⟨?_, ?_, ?_, g, by rw [m1]⟩⟩
      · simp (decide := true) only [FX3_perform, a2, pL, a3, if_true, if_false]
      · simp (decide := true) only [FX3_perform, a2, pL, a3, if_true, if_false]; exact Or.inl trivial
      · simp (decide := true) only [FX3_perform, a2, pL, a3, if_true, if_false]
end PRF
