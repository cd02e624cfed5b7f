/-! PURE: who rests, who goes on, who is chosen (GENERATED, wip/gen/p/33.py) -/
section CHO
variable {f n g reg mem tz tp tt tb l0 l1 : mF} {b : Nat} {z : Int32}
theorem rests_loop (H : Hb f b) : ∀ (m i fuel : Nat) (g : mF), i + m = 5 → m < fuel → OX10_rests_b1 fuel (nI i) (fb f z) (emb b n g) ∧ ∃ g', FX10_rests_b1 fuel (nI i) (fb f z) (emb b n g) = emb b n g' ∧ ∀ k, g' k = if 112 + i ≤ k ∧ k < 117 then g (k - 7) else g k
  | _, _, 0, _, _, h => absurd h (Nat.not_lt_zero _)
  | 0, i, fuel + 1, g, h, _ => by
    have c : (5 : Int32) ≤ nI i := nI_le (a := 5) (by omega) (by omega)
    rw [OX10_rests_b1, FX10_rests_b1, if_pos c]
    exact ⟨⟨fun _ => trivial, fun q => absurd c q⟩, g, rfl, fun k => (if_neg (by omega)).symm⟩
  | m + 1, i, fuel + 1, g, h, hf => by
    have c : ¬ (5 : Int32) ≤ nI i := nI_ge (b := 5) (by omega) (by decide)
    have e1 : (105 : Int32) + nI i = nI (105 + i) := nI_add 105 i
    have e2 : (112 : Int32) + nI i = nI (112 + i) := nI_add 112 i
    have ga := get_e (z := z) (n := n) (g := g) H (show 105 + i < 174 by omega) e1
    have oa := oget_e (z := z) (m := emb b n g) H (show 105 + i < 174 by omega) e1
    have sa := set_e (z := z) (n := n) (g := g) (v := g (105 + i)) H (show 112 + i < 174 by omega) e2
    have osa := oset_e (z := z) (m := emb b n g) (v := g (105 + i)) H (show 112 + i < 174 by omega) e2
    obtain ⟨r1, g', r2, r3⟩ := rests_loop H m (i + 1) fuel (upd g (112 + i) (g (105 + i))) (by omega) (by omega)
    refine ⟨?_, g', ?_, fun k => (r3 k).trans ?_⟩
    · rw [OX10_rests_b1]
      simp only [c, oa, ga, osa, sa, nI_1, r1, if_true, if_false, true_implies, false_implies, implies_true, not_true_eq_false, not_false_eq_true, and_true, true_and, and_self, or_true, true_or]
    · rw [FX10_rests_b1]
      simp only [c, ga, sa, nI_1, r2, if_true, if_false]
    · simp only [upd_at]
      by_cases q : 112 + (i + 1) ≤ k ∧ k < 117
      · rw [if_pos q, if_neg (show ¬ k - 7 = 112 + i by omega), if_pos (show 112 + i ≤ k ∧ k < 117 by omega)]
      · rw [if_neg q]
        by_cases q2 : k = 112 + i
        · subst q2
          rw [if_pos rfl, if_pos (show 112 + i ≤ 112 + i ∧ 112 + i < 117 by omega), show 112 + i - 7 = 105 + i by omega]
        · rw [if_neg q2, if_neg (show ¬ (112 + i ≤ k ∧ k < 117) by omega)]
theorem resumes_loop (H : Hb f b) : ∀ (m i fuel : Nat) (g : mF), i + m = 5 → m < fuel → OX10_resumes_b1 fuel (nI i) (fb f z) (emb b n g) ∧ ∃ g', FX10_resumes_b1 fuel (nI i) (fb f z) (emb b n g) = emb b n g' ∧ ∀ k, g' k = if 105 + i ≤ k ∧ k < 110 then g (k + 7) else g k
  | _, _, 0, _, _, h => absurd h (Nat.not_lt_zero _)
  | 0, i, fuel + 1, g, h, _ => by
    have c : (5 : Int32) ≤ nI i := nI_le (a := 5) (by omega) (by omega)
    rw [OX10_resumes_b1, FX10_resumes_b1, if_pos c]
    exact ⟨⟨fun _ => trivial, fun q => absurd c q⟩, g, rfl, fun k => (if_neg (by omega)).symm⟩
  | m + 1, i, fuel + 1, g, h, hf => by
    have c : ¬ (5 : Int32) ≤ nI i := nI_ge (b := 5) (by omega) (by decide)
    have e1 : (112 : Int32) + nI i = nI (112 + i) := nI_add 112 i
    have e2 : (105 : Int32) + nI i = nI (105 + i) := nI_add 105 i
    have ga := get_e (z := z) (n := n) (g := g) H (show 112 + i < 174 by omega) e1
    have oa := oget_e (z := z) (m := emb b n g) H (show 112 + i < 174 by omega) e1
    have sa := set_e (z := z) (n := n) (g := g) (v := g (112 + i)) H (show 105 + i < 174 by omega) e2
    have osa := oset_e (z := z) (m := emb b n g) (v := g (112 + i)) H (show 105 + i < 174 by omega) e2
    obtain ⟨r1, g', r2, r3⟩ := resumes_loop H m (i + 1) fuel (upd g (105 + i) (g (112 + i))) (by omega) (by omega)
    refine ⟨?_, g', ?_, fun k => (r3 k).trans ?_⟩
    · rw [OX10_resumes_b1]
      simp only [c, oa, ga, osa, sa, nI_1, r1, if_true, if_false, true_implies, false_implies, implies_true, not_true_eq_false, not_false_eq_true, and_true, true_and, and_self, or_true, true_or]
    · rw [FX10_resumes_b1]
      simp only [c, ga, sa, nI_1, r2, if_true, if_false]
    · simp only [upd_at]
      by_cases q : 105 + (i + 1) ≤ k ∧ k < 110
      · rw [if_pos q, if_neg (show ¬ k + 7 = 105 + i by omega), if_pos (show 105 + i ≤ k ∧ k < 110 by omega)]
      · rw [if_neg q]
        by_cases q2 : k = 105 + i
        · subst q2
          rw [if_pos rfl, if_pos (show 105 + i ≤ 105 + i ∧ 105 + i < 110 by omega), show 105 + i + 7 = 112 + i by omega]
        · rw [if_neg q2, if_neg (show ¬ (105 + i ≤ k ∧ k < 110) by omega)]
/-- who runs rests -/
theorem p_rests (H : Hb f b) (h : RO reg mem tz tp tt tb l0 l1 g) (h5 : reg 5 = 1) : OX10_rests (fb f z) (emb b n g) ∧ ∃ g', FX10_rests (fb f z) (emb b n g) = (0, emb b n g') ∧ ROff (upd (va_cpy reg reg 0 7 7) 4 (-1)) g' ∧ RB0 (upd (va_cpy reg reg 0 7 7) 4 (-1)) mem tz tp tt tb l0 l1 g' := by
  obtain ⟨r1, G, r2, r3⟩ := rests_loop (n := n) (z := z) H 5 0 10000 (upd (upd g 110 1) 111 (g 103)) (by decide) (by decide)
  rw [nI_0] at r1 r2
  have e3 : upd g 110 1 103 = g 103 := pk_un (by decide)
  have lo : ∀ k, k < 112 → G k = upd (upd g 110 1) 111 (g 103) k := fun k hk => (r3 k).trans (if_neg (by omega))
  have mi : ∀ k, k < 5 → G (112 + k) = g (105 + k) := fun k hk => by
    rw [r3, if_pos (by omega), pk_un (by omega), pk_un (by omega)]
    rw [show 112 + k - 7 = 105 + k by omega]
  have hi : ∀ k, 117 ≤ k → G k = g k := fun k hk => by
    rw [r3, if_neg (by omega), pk_un (by omega), pk_un (by omega)]
  have rl : ∀ k, k < 7 → upd (va_cpy reg reg 0 7 7) 4 (-1) (7 + k) = reg k := fun k hk => by
    rw [pk_un (by omega), va_cpy, if_pos (by omega), show 0 + (7 + k - 7) = k by omega]
  have rh : ∀ k, 14 ≤ k → upd (va_cpy reg reg 0 7 7) 4 (-1) k = reg k := fun k hk => by
    rw [pk_un (by omega), va_cpy, if_neg (by omega)]
  refine ⟨by simp only [OX10_rests, os110 H, s110 H, og103 H, g103 H, e3, os111 H, s111 H, r1, r2, os102 H, if_true, if_false, true_implies, false_implies, implies_true, not_true_eq_false, not_false_eq_true, and_true, true_and, and_self, or_true, true_or], upd G 102 0, by simp only [FX10_rests, s110 H, g103 H, e3, s111 H, r2, s102 H], ⟨pk_us, pk_us⟩, ?_⟩
  obtain ⟨⟨a1, a2, a3, a4, a5, a6, a7, a8, a9, a10⟩, h1, h2, h3, h4, hT, h6, h7⟩ := h
  refine ⟨RMem_c h1 (fun k hk => ?_), RQ_c h2 (fun k a c => rh k a) (fun k a c => ?_), Or.inr ⟨?_, ?_, ?_, ?_, ?_, ?_, ?_, ?_, ?_⟩, RClk_c h4 (fun k a c => rh k (by omega)) (fun k a c => ?_), RT_c hT (fun k a c => ?_), RLk_c h6 (fun k a c => ?_), RLk_c h7 (fun k a c => ?_)⟩
  · rw [pk_un (by omega), lo k (by omega), pk_un (by omega), pk_un (by omega)]
  · rw [pk_un (by omega), lo k (by omega), pk_un (by omega), pk_un (by omega)]
  · rw [rl 4 (by decide)]; exact a1
  · rw [rl 5 (by decide)]; exact h5
  · rw [pk_un (by decide), lo 110 (by decide), pk_un (by decide), pk_us]
  · rw [pk_un (by decide), lo 111 (by decide), pk_us, rl 4 (by decide)]; exact a3
  · rw [pk_un (by decide), mi 0 (by decide), rl 3 (by decide)]; exact a6
  · rw [pk_un (by decide), mi 1 (by decide), rl 0 (by decide)]; exact a7
  · rw [pk_un (by decide), mi 2 (by decide), rl 1 (by decide)]; exact a8
  · rw [pk_un (by decide), mi 3 (by decide), rl 2 (by decide)]; exact a9
  · rw [pk_un (by decide), mi 4 (by decide), rl 6 (by decide)]; exact a10
  · rw [pk_un (by omega), lo k (by omega), pk_un (by omega), pk_un (by omega)]
  · rw [pk_un (by omega), hi k (by omega)]
  · rw [pk_un (by omega), hi k (by omega)]
  · rw [pk_un (by omega), hi k (by omega)]
/-- who rested goes on -/
theorem p_resumes (H : Hb f b) (h : RB0 reg mem tz tp tt tb l0 l1 g) (h11 : ¬ reg 11 = -1) : OX10_resumes (fb f z) (emb b n g) ∧ ∃ g', FX10_resumes (fb f z) (emb b n g) = (0, emb b n g') ∧ RO (upd (va_cpy reg reg 7 0 7) 11 (-1)) mem tz tp tt tb l0 l1 g' := by
  obtain ⟨h1, h2, h3, h4, hT, h6, h7⟩ := h
  rcases h3 with h3 | ⟨b1, b2, b3, b4, b5, b6, b7, b8, b9⟩
  · exact absurd h3.1 h11
  obtain ⟨r1, G, r2, r3⟩ := resumes_loop (n := n) (z := z) H 5 0 10000 (upd (upd (upd g 110 0) 103 (g 111)) 104 1) (by decide) (by decide)
  rw [nI_0] at r1 r2
  have e3 : upd g 110 0 111 = g 111 := pk_un (by decide)
  have lo : ∀ k, k < 105 ∨ 110 ≤ k → G k = upd (upd (upd g 110 0) 103 (g 111)) 104 1 k := fun k hk => (r3 k).trans (if_neg (by omega))
  have mi : ∀ k, k < 5 → G (105 + k) = g (112 + k) := fun k hk => by
    rw [r3, if_pos (by omega), pk_un (by omega), pk_un (by omega), pk_un (by omega)]
    rw [show 105 + k + 7 = 112 + k by omega]
  have rl : ∀ k, k < 7 → upd (va_cpy reg reg 7 0 7) 11 (-1) k = reg (7 + k) := fun k hk => by
    rw [pk_un (by omega), va_cpy, if_pos (by omega), show 7 + (k - 0) = 7 + k by omega]
  have rh : ∀ k, 14 ≤ k → upd (va_cpy reg reg 7 0 7) 11 (-1) k = reg k := fun k hk => by
    rw [pk_un (by omega), va_cpy, if_neg (by omega)]
  refine ⟨by simp only [OX10_resumes, os110 H, s110 H, og111 H, g111 H, e3, os103 H, s103 H, os104 H, s104 H, r1, r2, os102 H, if_true, if_false, true_implies, false_implies, implies_true, not_true_eq_false, not_false_eq_true, and_true, true_and, and_self, or_true, true_or], upd G 102 1, by simp only [FX10_resumes, s110 H, g111 H, e3, s103 H, s104 H, r2, s102 H], ?_⟩
  refine ⟨⟨?_, ?_, ?_, ?_, ?_, ?_, ?_, ?_, ?_, ?_⟩, RMem_c h1 (fun k hk => ?_), RQ_c h2 (fun k a c => rh k a) (fun k a c => ?_), Or.inl ⟨pk_us, ?_⟩, RClk_c h4 (fun k a c => rh k (by omega)) (fun k a c => ?_), RT_c hT (fun k a c => ?_), RLk_c h6 (fun k a c => ?_), RLk_c h7 (fun k a c => ?_)⟩
  · rw [rl 4 (by decide)]; exact b1
  · exact pk_us
  · rw [pk_un (by decide), lo 103 (by decide), pk_un (by decide), pk_us, rl 4 (by decide)]; exact b4
  · rw [pk_un (by decide), lo 104 (by decide), pk_us, rl 5 (by decide)]; exact b2.symm
  · rw [rl 5 (by decide)]; exact Or.inr b2
  · rw [pk_un (by decide), mi 0 (by decide), rl 3 (by decide)]; exact b5
  · rw [pk_un (by decide), mi 1 (by decide), rl 0 (by decide)]; exact b6
  · rw [pk_un (by decide), mi 2 (by decide), rl 1 (by decide)]; exact b7
  · rw [pk_un (by decide), mi 3 (by decide), rl 2 (by decide)]; exact b8
  · rw [pk_un (by decide), mi 4 (by decide), rl 6 (by decide)]; exact b9
  · rw [pk_un (by omega), lo k (by omega), pk_un (by omega), pk_un (by omega), pk_un (by omega)]
  · rw [pk_un (by omega), lo k (by omega), pk_un (by omega), pk_un (by omega), pk_un (by omega)]
  · rw [pk_un (by decide), lo 110 (by decide), pk_un (by decide), pk_un (by decide), pk_us]
  · rw [pk_un (by omega), lo k (by omega), pk_un (by omega), pk_un (by omega), pk_un (by omega)]
  · rw [pk_un (by omega), lo k (by omega), pk_un (by omega), pk_un (by omega), pk_un (by omega)]
  · rw [pk_un (by omega), lo k (by omega), pk_un (by omega), pk_un (by omega), pk_un (by omega)]
  · rw [pk_un (by omega), lo k (by omega), pk_un (by omega), pk_un (by omega), pk_un (by omega)]
theorem p_choose (H : Hb f b) (h : RM reg mem tz tp tt tb l0 l1 g) : OX3_chooseWhoRuns reg mem ∧ ∃ z g', (∀ (y : Int32) (fop farg a0 d : mF), (let u14 := FX10_get 102 (fb f 0) (emb b n g); if u14 = 1 then (let u17 := FX10_get 104 (fb f 0) (emb b n g); if u17 = 1 then (let u20 := FX10_get 98 (fb f 0) (emb b n g); if u20 = (-1) then (FX10_turn_b4 y (fb f 0) fop farg (emb b n g) a0 d) else (let u119 := FX10_rests (fb f 0) (emb b n g); FX10_turn_b4 y (fb f 0) fop farg u119.2 a0 d)) else (FX10_turn_b4 y (fb f 0) fop farg (emb b n g) a0 d)) else (FX10_turn_b4 y (fb f 0) fop farg (emb b n g) a0 d)) = FX10_turn_b7 y (fb f z) fop farg (emb b n g') a0 d ∧ (OX10_turn_b7 y (fb f z) fop farg (emb b n g') a0 d → (OX10_get 102 (fb f 0) (emb b n g) ∧ (let u14 := FX10_get 102 (fb f 0) (emb b n g); (u14 = 1 → (OX10_get 104 (fb f 0) (emb b n g) ∧ (let u17 := FX10_get 104 (fb f 0) (emb b n g); (u17 = 1 → (OX10_get 98 (fb f 0) (emb b n g) ∧ (let u20 := FX10_get 98 (fb f 0) (emb b n g); (u20 = (-1) → (OX10_turn_b4 y (fb f 0) fop farg (emb b n g) a0 d)) ∧ (¬ (u20 = (-1)) → (OX10_rests (fb f 0) (emb b n g) ∧ (let u119 := FX10_rests (fb f 0) (emb b n g); OX10_turn_b4 y (fb f 0) fop farg u119.2 a0 d)))))) ∧ (¬ (u17 = 1) → (OX10_turn_b4 y (fb f 0) fop farg (emb b n g) a0 d))))) ∧ (¬ (u14 = 1) → (OX10_turn_b4 y (fb f 0) fop farg (emb b n g) a0 d)))))) ∧ ((z = 0 ∧ (FX3_chooseWhoRuns reg mem).1 = 1 ∧ RM (FX3_chooseWhoRuns reg mem).2 mem tz tp tt tb l0 l1 g') ∨ (z = 1 ∧ (FX3_chooseWhoRuns reg mem).1 = 0)) := by
  obtain ⟨hr, hB⟩ := h
  have q8 : g 98 = reg 14 := hB.2.1.1
  have q9 : g 99 = reg 15 := hB.2.1.2.1
  rcases hr with ⟨a1, a2⟩ | hOn
  · by_cases c14 : reg 14 = -1
    · by_cases c11 : reg 11 = -1
      · have v110 : g 110 = 0 := by
          rcases hB.2.2.1 with q | q
          · exact q.2
          · exact absurd c11 (wNN q.1)
        by_cases c15 : reg 15 = -1
        · skip
          refine ⟨by simp (decide := true) only [OX3_chooseWhoRuns, OX3_chooseWhoRuns_b1, FX3_isRunning, a1, c14, c11, c15, if_true, if_false, true_implies, false_implies, implies_true, not_true_eq_false, not_false_eq_true, and_true, true_and, and_self, or_true, true_or], 0, g, fun y fop farg a0 d => ⟨by simp (decide := true) only [FX10_turn_b4, g102 H, g104 H, g98 H, g110 H, g99 H, a2, q8, c14, v110, q9, c15, if_true, if_false], fun ho => by simp (decide := true) only [OX10_turn_b4, og102 H, g102 H, og104 H, g104 H, og98 H, g98 H, og110 H, g110 H, og99 H, g99 H, a2, q8, c14, v110, q9, c15, ho, if_true, if_false, true_implies, false_implies, implies_true, not_true_eq_false, not_false_eq_true, and_true, true_and, and_self, or_true, true_or]⟩, ?_⟩
          simp (decide := true) only [FX3_chooseWhoRuns, FX3_chooseWhoRuns_b1, FX3_isRunning, a1, c14, c11, c15, if_true, if_false]
          exact Or.inl ⟨trivial, trivial, Or.inl ⟨a1, a2⟩, hB⟩
        · obtain ⟨t1, t2, t3⟩ := p_take1 (n := n) H hB c15
          rcases t3 with ⟨t3, g', t4, t5⟩ | ⟨t3, t4⟩
          · skip
            refine ⟨by simp (decide := true) only [OX3_chooseWhoRuns, OX3_chooseWhoRuns_b1, FX3_isRunning, a1, c14, c11, c15, t1, if_true, if_false, true_implies, false_implies, implies_true, not_true_eq_false, not_false_eq_true, and_true, true_and, and_self, or_true, true_or], 0, g', fun y fop farg a0 d => ⟨by simp (decide := true) only [FX10_turn_b4, g102 H, g104 H, g98 H, g110 H, g99 H, a2, q8, c14, v110, q9, c15, t4, if_true, if_false], fun ho => by simp (decide := true) only [OX10_turn_b4, og102 H, g102 H, og104 H, g104 H, og98 H, g98 H, og110 H, g110 H, og99 H, g99 H, a2, q8, c14, v110, q9, c15, t2, t4, ho, if_true, if_false, true_implies, false_implies, implies_true, not_true_eq_false, not_false_eq_true, and_true, true_and, and_self, or_true, true_or]⟩, ?_⟩
            simp (decide := true) only [FX3_chooseWhoRuns, FX3_chooseWhoRuns_b1, FX3_isRunning, a1, c14, c11, c15, t3, if_true, if_false]
            exact Or.inl ⟨trivial, trivial, t5.M⟩
          · skip
            refine ⟨by simp (decide := true) only [OX3_chooseWhoRuns, OX3_chooseWhoRuns_b1, FX3_isRunning, a1, c14, c11, c15, t1, if_true, if_false, true_implies, false_implies, implies_true, not_true_eq_false, not_false_eq_true, and_true, true_and, and_self, or_true, true_or], 1, g, fun y fop farg a0 d => ⟨by simp (decide := true) only [FX10_turn_b4, g102 H, g104 H, g98 H, g110 H, g99 H, a2, q8, c14, v110, q9, c15, t4, if_true, if_false], fun ho => by simp (decide := true) only [OX10_turn_b4, og102 H, g102 H, og104 H, g104 H, og98 H, g98 H, og110 H, g110 H, og99 H, g99 H, a2, q8, c14, v110, q9, c15, t2, t4, ho, if_true, if_false, true_implies, false_implies, implies_true, not_true_eq_false, not_false_eq_true, and_true, true_and, and_self, or_true, true_or]⟩, ?_⟩
            simp (decide := true) only [FX3_chooseWhoRuns, FX3_chooseWhoRuns_b1, FX3_isRunning, a1, c14, c11, c15, t3, if_true, if_false]
            exact Or.inr trivial
      · have v110 : g 110 = 1 := by
          rcases hB.2.2.1 with q | q
          · exact absurd q.1 c11
          · exact q.2.2.1
        obtain ⟨t1, g', t2, t3⟩ := p_resumes (n := n) (z := 0) H hB c11
        refine ⟨by simp (decide := true) only [OX3_chooseWhoRuns, OX3_chooseWhoRuns_b1, FX3_isRunning, a1, c14, c11, if_true, if_false, true_implies, false_implies, implies_true, not_true_eq_false, not_false_eq_true, and_true, true_and, and_self, or_true, true_or], 0, g', fun y fop farg a0 d => ⟨by simp (decide := true) only [FX10_turn_b4, g102 H, g104 H, g98 H, g110 H, g99 H, a2, q8, c14, v110, t2, if_true, if_false], fun ho => by simp (decide := true) only [OX10_turn_b4, og102 H, g102 H, og104 H, g104 H, og98 H, g98 H, og110 H, g110 H, og99 H, g99 H, a2, q8, c14, v110, t1, t2, ho, if_true, if_false, true_implies, false_implies, implies_true, not_true_eq_false, not_false_eq_true, and_true, true_and, and_self, or_true, true_or]⟩, ?_⟩
        simp (decide := true) only [FX3_chooseWhoRuns, FX3_chooseWhoRuns_b1, FX3_isRunning, a1, c14, c11, if_true, if_false]
        exact Or.inl ⟨trivial, trivial, t3.M⟩
    · obtain ⟨t1, t2, t3⟩ := p_take0 (n := n) H hB c14
      rcases t3 with ⟨t3, g', t4, t5⟩ | ⟨t3, t4⟩
      · skip
        refine ⟨by simp (decide := true) only [OX3_chooseWhoRuns, OX3_chooseWhoRuns_b1, FX3_isRunning, a1, c14, t1, t3, if_true, if_false, true_implies, false_implies, implies_true, not_true_eq_false, not_false_eq_true, and_true, true_and, and_self, or_true, true_or], 0, g', fun y fop farg a0 d => ⟨by simp (decide := true) only [FX10_turn_b4, g102 H, g104 H, g98 H, g110 H, g99 H, a2, q8, c14, t4, if_true, if_false], fun ho => by simp (decide := true) only [OX10_turn_b4, og102 H, g102 H, og104 H, g104 H, og98 H, g98 H, og110 H, g110 H, og99 H, g99 H, a2, q8, c14, t2, t4, ho, if_true, if_false, true_implies, false_implies, implies_true, not_true_eq_false, not_false_eq_true, and_true, true_and, and_self, or_true, true_or]⟩, ?_⟩
        simp (decide := true) only [FX3_chooseWhoRuns, FX3_chooseWhoRuns_b1, FX3_isRunning, a1, c14, t3, if_true, if_false]
        exact Or.inl ⟨trivial, trivial, t5.M⟩
      · skip
        refine ⟨by simp (decide := true) only [OX3_chooseWhoRuns, OX3_chooseWhoRuns_b1, FX3_isRunning, a1, c14, t1, t3, if_true, if_false, true_implies, false_implies, implies_true, not_true_eq_false, not_false_eq_true, and_true, true_and, and_self, or_true, true_or], 1, g, fun y fop farg a0 d => ⟨by simp (decide := true) only [FX10_turn_b4, g102 H, g104 H, g98 H, g110 H, g99 H, a2, q8, c14, t4, if_true, if_false], fun ho => by simp (decide := true) only [OX10_turn_b4, og102 H, g102 H, og104 H, g104 H, og98 H, g98 H, og110 H, g110 H, og99 H, g99 H, a2, q8, c14, t2, t4, ho, if_true, if_false, true_implies, false_implies, implies_true, not_true_eq_false, not_false_eq_true, and_true, true_and, and_self, or_true, true_or]⟩, ?_⟩
        simp (decide := true) only [FX3_chooseWhoRuns, FX3_chooseWhoRuns_b1, FX3_isRunning, a1, c14, t3, if_true, if_false]
        exact Or.inr trivial
  · have a1 : ¬ reg 4 = -1 := wNN hOn.1
    have a2 : g 102 = 1 := hOn.2.1
    have q4 : g 104 = reg 5 := hOn.2.2.2.1
    have z10 : ¬ (1 : Int32) = 0 := by decide
    by_cases c5 : reg 5 = 1
    · by_cases c14 : reg 14 = -1
      · skip
        refine ⟨by simp (decide := true) only [OX3_chooseWhoRuns, OX3_chooseWhoRuns_b1, FX3_isRunning, a1, c5, c14, if_true, if_false, true_implies, false_implies, implies_true, not_true_eq_false, not_false_eq_true, and_true, true_and, and_self, or_true, true_or], 0, g, fun y fop farg a0 d => ⟨by simp (decide := true) only [FX10_turn_b4, g102 H, g104 H, g98 H, g110 H, g99 H, a2, q4, c5, q8, c14, if_true, if_false], fun ho => by simp (decide := true) only [OX10_turn_b4, og102 H, g102 H, og104 H, g104 H, og98 H, g98 H, og110 H, g110 H, og99 H, g99 H, a2, q4, c5, q8, c14, ho, if_true, if_false, true_implies, false_implies, implies_true, not_true_eq_false, not_false_eq_true, and_true, true_and, and_self, or_true, true_or]⟩, ?_⟩
        simp (decide := true) only [FX3_chooseWhoRuns, FX3_chooseWhoRuns_b1, FX3_isRunning, a1, c5, c14, if_true, if_false]
        exact Or.inl ⟨trivial, trivial, Or.inr hOn, hB⟩
      · obtain ⟨s1, G, s2, s3, s4⟩ := p_rests (n := n) (z := 0) H ⟨hOn, hB⟩ c5
        have e14 : upd (va_cpy reg reg 0 7 7) 4 (-1) 14 = reg 14 := rfl
        have e4 : upd (va_cpy reg reg 0 7 7) 4 (-1) 4 = -1 := pk_us
        have d14 : ¬ upd (va_cpy reg reg 0 7 7) 4 (-1) 14 = -1 := by rw [e14]; exact c14
        have G102 : G 102 = 0 := s3.2
        have G98 : G 98 = reg 14 := s4.2.1.1.trans e14
        obtain ⟨t1, t2, t3⟩ := p_take0 (n := n) H s4 d14
        rcases t3 with ⟨t3, g', t4, t5⟩ | ⟨t3, t4⟩
        · skip
          refine ⟨by simp (decide := true) only [OX3_chooseWhoRuns, OX3_chooseWhoRuns_b1, FX3_isRunning, a1, c5, c14, e4, d14, t1, t3, if_true, if_false, true_implies, false_implies, implies_true, not_true_eq_false, not_false_eq_true, and_true, true_and, and_self, or_true, true_or], 0, g', fun y fop farg a0 d => ⟨by simp (decide := true) only [FX10_turn_b4, g102 H, g104 H, g98 H, g110 H, g99 H, a2, q4, c5, q8, c14, s2, G102, G98, t4, if_true, if_false], fun ho => by simp (decide := true) only [OX10_turn_b4, og102 H, g102 H, og104 H, g104 H, og98 H, g98 H, og110 H, g110 H, og99 H, g99 H, a2, q4, c5, q8, c14, s1, s2, G102, G98, t2, t4, ho, if_true, if_false, true_implies, false_implies, implies_true, not_true_eq_false, not_false_eq_true, and_true, true_and, and_self, or_true, true_or]⟩, ?_⟩
          simp (decide := true) only [FX3_chooseWhoRuns, FX3_chooseWhoRuns_b1, FX3_isRunning, a1, c5, c14, e4, d14, t3, if_true, if_false]
          exact Or.inl ⟨trivial, trivial, t5.M⟩
        · skip
          refine ⟨by simp (decide := true) only [OX3_chooseWhoRuns, OX3_chooseWhoRuns_b1, FX3_isRunning, a1, c5, c14, e4, d14, t1, t3, if_true, if_false, true_implies, false_implies, implies_true, not_true_eq_false, not_false_eq_true, and_true, true_and, and_self, or_true, true_or], 1, G, fun y fop farg a0 d => ⟨by simp (decide := true) only [FX10_turn_b4, g102 H, g104 H, g98 H, g110 H, g99 H, a2, q4, c5, q8, c14, s2, G102, G98, t4, if_true, if_false], fun ho => by simp (decide := true) only [OX10_turn_b4, og102 H, g102 H, og104 H, g104 H, og98 H, g98 H, og110 H, g110 H, og99 H, g99 H, a2, q4, c5, q8, c14, s1, s2, G102, G98, t2, t4, ho, if_true, if_false, true_implies, false_implies, implies_true, not_true_eq_false, not_false_eq_true, and_true, true_and, and_self, or_true, true_or]⟩, ?_⟩
          simp (decide := true) only [FX3_chooseWhoRuns, FX3_chooseWhoRuns_b1, FX3_isRunning, a1, c5, c14, e4, d14, t3, if_true, if_false]
          exact Or.inr trivial
    · skip
      refine ⟨by simp (decide := true) only [OX3_chooseWhoRuns, OX3_chooseWhoRuns_b1, FX3_isRunning, a1, c5, if_true, if_false, true_implies, false_implies, implies_true, not_true_eq_false, not_false_eq_true, and_true, true_and, and_self, or_true, true_or], 0, g, fun y fop farg a0 d => ⟨by simp (decide := true) only [FX10_turn_b4, g102 H, g104 H, g98 H, g110 H, g99 H, a2, q4, c5, if_true, if_false], fun ho => by simp (decide := true) only [OX10_turn_b4, og102 H, g102 H, og104 H, g104 H, og98 H, g98 H, og110 H, g110 H, og99 H, g99 H, a2, q4, c5, ho, if_true, if_false, true_implies, false_implies, implies_true, not_true_eq_false, not_false_eq_true, and_true, true_and, and_self, or_true, true_or]⟩, ?_⟩
      simp (decide := true) only [FX3_chooseWhoRuns, FX3_chooseWhoRuns_b1, FX3_isRunning, a1, c5, if_true, if_false]
      exact Or.inl ⟨trivial, trivial, Or.inr hOn, hB⟩
end CHO
