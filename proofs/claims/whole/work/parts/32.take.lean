/-! PURE: who runs (GENERATED, wip/gen/p/32.py) -/
theorem oisP10' {x : Int32} : OX10_isProcess x := oisP10 ▸ trivial
section TAKE
variable {f n g reg mem tz tp tt tb l0 l1 : mF} {b : Nat}
/-- the queue of priority 0 gives its first -/
theorem p_take0 (H : Hb f b) (h : RB0 reg mem tz tp tt tb l0 l1 g) (hq : ¬ reg 14 = -1) : OX3_take 0 reg mem ∧ OX10_take 0 (fb f 0) (emb b n g) ∧ (((FX3_take 0 reg mem).1 = 1 ∧ ∃ g', FX10_take 0 (fb f 0) (emb b n g) = (0, fb f 0, emb b n g') ∧ RO (FX3_take 0 reg mem).2 mem tz tp tt tb l0 l1 g') ∨ ((FX3_take 0 reg mem).1 = 0 ∧ FX10_take 0 (fb f 0) (emb b n g) = (0, fb f 1, emb b n g))) := by
  have hRQ := h.2.1
  have e8 : g 98 = reg 14 := hRQ.1
  obtain ⟨e0, hb⟩ := hRQ.2.2.1 hq
  have c1 : ((14 : Int32) + 0).toNatClampNeg = 14 := by decide
  have c2 : ((16 : Int32) + 0).toNatClampNeg = 16 := by decide
  have v1 : vp_in ((14 : Int32) + 0) 20 := vp_in_nI (show (14 : Nat) < 20 by decide) (by decide)
  have v2 : vp_in ((16 : Int32) + 0) 20 := vp_in_nI (show (16 : Nat) < 20 by decide) (by decide)
  have ga : ∀ z G, FX10_get (98 + 0) (fb f z) (emb b n G) = G 98 := fun z G => get_e H (by decide) (by decide)
  have oa : ∀ z m, OX10_get (98 + 0) (fb f z) m = True := fun z m => oget_e H (k := 98) (by decide) (by decide)
  have gb : ∀ z G, FX10_get (100 + 0) (fb f z) (emb b n G) = G 100 := fun z G => get_e H (by decide) (by decide)
  have ob : ∀ z m, OX10_get (100 + 0) (fb f z) m = True := fun z m => oget_e H (k := 100) (by decide) (by decide)
  have sa : ∀ z G v, FX10_set (98 + 0) v (fb f z) (emb b n G) = (0, emb b n (upd G 98 v)) := fun z G v => set_e H (by decide) (by decide)
  have osa : ∀ z m v, OX10_set (98 + 0) v (fb f z) m = True := fun z m v => oset_e H (k := 98) (by decide) (by decide)
  by_cases hp : isP (reg 14)
  · have hw := pW hp
    have hp1 := wS1 hw
    have hp2 := wS2 hw
    have k1 := (pl_cl hp1).1
    have k2 := (pl_cl hp2).1
    have m1 := h.1 _ k1
    have m2 := h.1 _ k2
    by_cases e : reg 14 = reg 16
    · obtain ⟨G0, hG0⟩ : ∃ G0 : mF, G0 = upd (upd (upd (upd g 98 (-1)) 102 1) 103 (reg 14 / 2)) 104 0 := ⟨_, rfl⟩
      have r98 : (-1 : Int32) = -1 := rfl
      have em : G0 (reg 14 / 2 - 1).toNatClampNeg = mem (reg 14 / 2 - 1).toNatClampNeg := by
        rw [hG0, pk_un (by omega), pk_un (by omega), pk_un (by omega), pk_un (by omega)]
        exact m1
      have et := at_ok (n := n) (g := G0) H hp1
      rw [hG0] at et em
      have et2 := at_ok (n := n) (g := g) H hp2
      have eT : (reg 14 = reg 16) = True := eq_true e
      refine ⟨by simp (decide := true) only [OX3_take, v1, v2, c1, c2, isProc9_1 hp, eT, pl_vp hp1, pl_vp hp2, if_true, if_false, true_implies, false_implies, implies_true, not_true_eq_false, not_false_eq_true, and_true, true_and, and_self, or_true, true_or], by simp (decide := true) only [OX10_take, oa, ga, e8, oisP10, isProc10_1 hp, needs_ok one0, fb_46, ob, gb, e0, eT, osa, sa, os102 H, s102 H, os103 H, s103 H, os104 H, s104 H, oat H (Or.inl rfl), et, em, et2, m2, os105 H, s105 H, oclears H, clears_e H, os109 H, if_true, if_false, true_implies, false_implies, implies_true, not_true_eq_false, not_false_eq_true, and_true, true_and, and_self, or_true, true_or], Or.inl ⟨by simp (decide := true) only [FX3_take, c1, c2, isProc9_1 hp, eT, if_true, if_false], _, by simp (decide := true) only [FX10_take, ga, e8, isProc10_1 hp, needs_ok one0, fb_46, gb, e0, eT, sa, s102 H, s103 H, s104 H, et, em, et2, m2, s105 H, clears_e H, s109 H, if_true, if_false] <;> rfl, ?_⟩⟩
      simp (decide := true) only [FX3_take, c1, c2, isProc9_1 hp, eT, if_true, if_false]
      refine ⟨?_, ?_⟩
      · refine ⟨?_, ?_, ?_, ?_, ?_, ?_, ?_, ?_, ?_, ?_⟩
        · show isWv (_ / 2)
          first | exact hw | (rw [← e]; exact hw)
        · rfl
        · rfl
        · rfl
        · exact Or.inl rfl
        · rfl
        · rfl
        · rfl
        · rfl
        · rfl
      · have hb1 : RB0 (upd (upd reg 14 (-1)) 16 (-1)) mem tz tp tt tb l0 l1 (upd g 98 (-1)) := by
          refine RB0_q h (RMem_c h.1 (fun k hk => pk_un (by omega))) ?_ (fun k hk => by repeat rw [pk_un (by omega)]) (fun k hk => pk_un (by omega))
          obtain ⟨s1, s2, s3, s4⟩ := hRQ
          refine ⟨?_, ?_, ?_, ?_⟩ <;> simp (decide := true) only [upd_at, if_true, if_false, if_true, if_false, true_implies, false_implies, implies_true, not_true_eq_false, not_false_eq_true, and_true, true_and, and_self, or_true, true_or] <;> first | exact s1 | exact s2 | exact s3 | exact s4 | rfl | trivial | exact fun _ => ⟨e0, hb⟩
        exact RB0_c hb1 (fun k hk => by
          show upd (upd (upd (upd (upd (upd (upd _ 4 _) 3 _) 5 _) 6 _) 0 _) 1 _) 2 _ k = _
          repeat rw [pk_un (show k ≠ _ by omega)]) (fun k hk => by
          rw [pk_un (by omega), pk_un (by omega), pk_un (by omega), pk_un (by omega), pk_un (by omega), pk_un (by omega), pk_un (by omega), pk_un (by omega)])
    · obtain ⟨G0, hG0⟩ : ∃ G0 : mF, G0 = upd (upd (upd (upd g 98 (mem (reg 14 / 2 - 2).toNatClampNeg)) 102 1) 103 (reg 14 / 2)) 104 0 := ⟨_, rfl⟩
      have em : G0 (reg 14 / 2 - 1).toNatClampNeg = mem (reg 14 / 2 - 1).toNatClampNeg := by
        rw [hG0, pk_un (by omega), pk_un (by omega), pk_un (by omega), pk_un (by omega)]
        exact m1
      have et := at_ok (n := n) (g := G0) H hp1
      rw [hG0] at et em
      have et2 := at_ok (n := n) (g := g) H hp2
      refine ⟨by simp (decide := true) only [OX3_take, v1, v2, c1, c2, isProc9_1 hp, e, pl_vp hp1, pl_vp hp2, if_true, if_false, true_implies, false_implies, implies_true, not_true_eq_false, not_false_eq_true, and_true, true_and, and_self, or_true, true_or], by simp (decide := true) only [OX10_take, oa, ga, e8, oisP10, isProc10_1 hp, needs_ok one0, fb_46, ob, gb, e0, e, osa, sa, os102 H, s102 H, os103 H, s103 H, os104 H, s104 H, oat H (Or.inl rfl), et, em, et2, m2, os105 H, s105 H, oclears H, clears_e H, os109 H, if_true, if_false, true_implies, false_implies, implies_true, not_true_eq_false, not_false_eq_true, and_true, true_and, and_self, or_true, true_or], Or.inl ⟨by simp (decide := true) only [FX3_take, c1, c2, isProc9_1 hp, e, if_true, if_false], _, by simp (decide := true) only [FX10_take, ga, e8, isProc10_1 hp, needs_ok one0, fb_46, gb, e0, e, sa, s102 H, s103 H, s104 H, et, em, et2, m2, s105 H, clears_e H, s109 H, if_true, if_false] <;> rfl, ?_⟩⟩
      simp (decide := true) only [FX3_take, c1, c2, isProc9_1 hp, e, if_true, if_false]
      refine ⟨?_, ?_⟩
      · refine ⟨?_, ?_, ?_, ?_, ?_, ?_, ?_, ?_, ?_, ?_⟩
        · show isWv (_ / 2)
          first | exact hw | (rw [← e]; exact hw)
        · rfl
        · rfl
        · rfl
        · exact Or.inl rfl
        · rfl
        · rfl
        · rfl
        · rfl
        · rfl
      · have hb1 : RB0 (upd reg 14 (mem (reg 14 / 2 - 2).toNatClampNeg)) mem tz tp tt tb l0 l1 (upd g 98 (mem (reg 14 / 2 - 2).toNatClampNeg)) := by
          refine RB0_q h (RMem_c h.1 (fun k hk => pk_un (by omega))) ?_ (fun k hk => by repeat rw [pk_un (by omega)]) (fun k hk => pk_un (by omega))
          obtain ⟨s1, s2, s3, s4⟩ := hRQ
          refine ⟨?_, ?_, ?_, ?_⟩ <;> simp (decide := true) only [upd_at, if_true, if_false, if_true, if_false, true_implies, false_implies, implies_true, not_true_eq_false, not_false_eq_true, and_true, true_and, and_self, or_true, true_or] <;> first | exact s1 | exact s2 | exact s3 | exact s4 | rfl | trivial | exact fun _ => ⟨e0, hb⟩
        exact RB0_c hb1 (fun k hk => by
          show upd (upd (upd (upd (upd (upd (upd _ 4 _) 3 _) 5 _) 6 _) 0 _) 1 _) 2 _ k = _
          repeat rw [pk_un (show k ≠ _ by omega)]) (fun k hk => by
          rw [pk_un (by omega), pk_un (by omega), pk_un (by omega), pk_un (by omega), pk_un (by omega), pk_un (by omega), pk_un (by omega), pk_un (by omega)])
  · refine ⟨by simp (decide := true) only [OX3_take, c1, v1, isProc9_0 hp, if_true, if_false, true_implies, false_implies, implies_true, not_true_eq_false, not_false_eq_true, and_true, true_and, and_self, or_true, true_or], by simp (decide := true) only [OX10_take, oa, ga, e8, oisP10, isProc10_0 hp, needs_bad, fb_46, if_true, if_false, true_implies, false_implies, implies_true, not_true_eq_false, not_false_eq_true, and_true, true_and, and_self, or_true, true_or], Or.inr ⟨by simp (decide := true) only [FX3_take, c1, isProc9_0 hp, if_true, if_false], by simp (decide := true) only [FX10_take, ga, e8, isProc10_0 hp, needs_bad, fb_46, if_true, if_false]⟩⟩
/-- the queue of priority 1 gives its first -/
theorem p_take1 (H : Hb f b) (h : RB0 reg mem tz tp tt tb l0 l1 g) (hq : ¬ reg 15 = -1) : OX3_take 1 reg mem ∧ OX10_take 1 (fb f 0) (emb b n g) ∧ (((FX3_take 1 reg mem).1 = 1 ∧ ∃ g', FX10_take 1 (fb f 0) (emb b n g) = (0, fb f 0, emb b n g') ∧ RO (FX3_take 1 reg mem).2 mem tz tp tt tb l0 l1 g') ∨ ((FX3_take 1 reg mem).1 = 0 ∧ FX10_take 1 (fb f 0) (emb b n g) = (0, fb f 1, emb b n g))) := by
  have hRQ := h.2.1
  have e8 : g 99 = reg 15 := hRQ.2.1
  obtain ⟨e0, hb⟩ := hRQ.2.2.2 hq
  have c1 : ((14 : Int32) + 1).toNatClampNeg = 15 := by decide
  have c2 : ((16 : Int32) + 1).toNatClampNeg = 17 := by decide
  have v1 : vp_in ((14 : Int32) + 1) 20 := vp_in_nI (show (15 : Nat) < 20 by decide) (by decide)
  have v2 : vp_in ((16 : Int32) + 1) 20 := vp_in_nI (show (17 : Nat) < 20 by decide) (by decide)
  have ga : ∀ z G, FX10_get (98 + 1) (fb f z) (emb b n G) = G 99 := fun z G => get_e H (by decide) (by decide)
  have oa : ∀ z m, OX10_get (98 + 1) (fb f z) m = True := fun z m => oget_e H (k := 99) (by decide) (by decide)
  have gb : ∀ z G, FX10_get (100 + 1) (fb f z) (emb b n G) = G 101 := fun z G => get_e H (by decide) (by decide)
  have ob : ∀ z m, OX10_get (100 + 1) (fb f z) m = True := fun z m => oget_e H (k := 101) (by decide) (by decide)
  have sa : ∀ z G v, FX10_set (98 + 1) v (fb f z) (emb b n G) = (0, emb b n (upd G 99 v)) := fun z G v => set_e H (by decide) (by decide)
  have osa : ∀ z m v, OX10_set (98 + 1) v (fb f z) m = True := fun z m v => oset_e H (k := 99) (by decide) (by decide)
  by_cases hp : isP (reg 15)
  · have hw := pW hp
    have hp1 := wS1 hw
    have hp2 := wS2 hw
    have k1 := (pl_cl hp1).1
    have k2 := (pl_cl hp2).1
    have m1 := h.1 _ k1
    have m2 := h.1 _ k2
    by_cases e : reg 15 = reg 17
    · obtain ⟨G0, hG0⟩ : ∃ G0 : mF, G0 = upd (upd (upd (upd g 99 (-1)) 102 1) 103 (reg 15 / 2)) 104 1 := ⟨_, rfl⟩
      have r98 : (-1 : Int32) = -1 := rfl
      have em : G0 (reg 15 / 2 - 1).toNatClampNeg = mem (reg 15 / 2 - 1).toNatClampNeg := by
        rw [hG0, pk_un (by omega), pk_un (by omega), pk_un (by omega), pk_un (by omega)]
        exact m1
      have et := at_ok (n := n) (g := G0) H hp1
      rw [hG0] at et em
      have et2 := at_ok (n := n) (g := g) H hp2
      have eT : (reg 15 = reg 17) = True := eq_true e
      refine ⟨by simp (decide := true) only [OX3_take, v1, v2, c1, c2, isProc9_1 hp, eT, pl_vp hp1, pl_vp hp2, if_true, if_false, true_implies, false_implies, implies_true, not_true_eq_false, not_false_eq_true, and_true, true_and, and_self, or_true, true_or], by simp (decide := true) only [OX10_take, oa, ga, e8, oisP10, isProc10_1 hp, needs_ok one0, fb_46, ob, gb, e0, eT, osa, sa, os102 H, s102 H, os103 H, s103 H, os104 H, s104 H, oat H (Or.inl rfl), et, em, et2, m2, os105 H, s105 H, oclears H, clears_e H, os109 H, if_true, if_false, true_implies, false_implies, implies_true, not_true_eq_false, not_false_eq_true, and_true, true_and, and_self, or_true, true_or], Or.inl ⟨by simp (decide := true) only [FX3_take, c1, c2, isProc9_1 hp, eT, if_true, if_false], _, by simp (decide := true) only [FX10_take, ga, e8, isProc10_1 hp, needs_ok one0, fb_46, gb, e0, eT, sa, s102 H, s103 H, s104 H, et, em, et2, m2, s105 H, clears_e H, s109 H, if_true, if_false] <;> rfl, ?_⟩⟩
      simp (decide := true) only [FX3_take, c1, c2, isProc9_1 hp, eT, if_true, if_false]
      refine ⟨?_, ?_⟩
      · refine ⟨?_, ?_, ?_, ?_, ?_, ?_, ?_, ?_, ?_, ?_⟩
        · show isWv (_ / 2)
          first | exact hw | (rw [← e]; exact hw)
        · rfl
        · rfl
        · rfl
        · exact Or.inr rfl
        · rfl
        · rfl
        · rfl
        · rfl
        · rfl
      · have hb1 : RB0 (upd (upd reg 15 (-1)) 17 (-1)) mem tz tp tt tb l0 l1 (upd g 99 (-1)) := by
          refine RB0_q h (RMem_c h.1 (fun k hk => pk_un (by omega))) ?_ (fun k hk => by repeat rw [pk_un (by omega)]) (fun k hk => pk_un (by omega))
          obtain ⟨s1, s2, s3, s4⟩ := hRQ
          refine ⟨?_, ?_, ?_, ?_⟩ <;> simp (decide := true) only [upd_at, if_true, if_false, if_true, if_false, true_implies, false_implies, implies_true, not_true_eq_false, not_false_eq_true, and_true, true_and, and_self, or_true, true_or] <;> first | exact s1 | exact s2 | exact s3 | exact s4 | rfl | trivial | exact fun _ => ⟨e0, hb⟩
        exact RB0_c hb1 (fun k hk => by
          show upd (upd (upd (upd (upd (upd (upd _ 4 _) 3 _) 5 _) 6 _) 0 _) 1 _) 2 _ k = _
          repeat rw [pk_un (show k ≠ _ by omega)]) (fun k hk => by
          rw [pk_un (by omega), pk_un (by omega), pk_un (by omega), pk_un (by omega), pk_un (by omega), pk_un (by omega), pk_un (by omega), pk_un (by omega)])
    · obtain ⟨G0, hG0⟩ : ∃ G0 : mF, G0 = upd (upd (upd (upd g 99 (mem (reg 15 / 2 - 2).toNatClampNeg)) 102 1) 103 (reg 15 / 2)) 104 1 := ⟨_, rfl⟩
      have em : G0 (reg 15 / 2 - 1).toNatClampNeg = mem (reg 15 / 2 - 1).toNatClampNeg := by
        rw [hG0, pk_un (by omega), pk_un (by omega), pk_un (by omega), pk_un (by omega)]
        exact m1
      have et := at_ok (n := n) (g := G0) H hp1
      rw [hG0] at et em
      have et2 := at_ok (n := n) (g := g) H hp2
      refine ⟨by simp (decide := true) only [OX3_take, v1, v2, c1, c2, isProc9_1 hp, e, pl_vp hp1, pl_vp hp2, if_true, if_false, true_implies, false_implies, implies_true, not_true_eq_false, not_false_eq_true, and_true, true_and, and_self, or_true, true_or], by simp (decide := true) only [OX10_take, oa, ga, e8, oisP10, isProc10_1 hp, needs_ok one0, fb_46, ob, gb, e0, e, osa, sa, os102 H, s102 H, os103 H, s103 H, os104 H, s104 H, oat H (Or.inl rfl), et, em, et2, m2, os105 H, s105 H, oclears H, clears_e H, os109 H, if_true, if_false, true_implies, false_implies, implies_true, not_true_eq_false, not_false_eq_true, and_true, true_and, and_self, or_true, true_or], Or.inl ⟨by simp (decide := true) only [FX3_take, c1, c2, isProc9_1 hp, e, if_true, if_false], _, by simp (decide := true) only [FX10_take, ga, e8, isProc10_1 hp, needs_ok one0, fb_46, gb, e0, e, sa, s102 H, s103 H, s104 H, et, em, et2, m2, s105 H, clears_e H, s109 H, if_true, if_false] <;> rfl, ?_⟩⟩
      simp (decide := true) only [FX3_take, c1, c2, isProc9_1 hp, e, if_true, if_false]
      refine ⟨?_, ?_⟩
      · refine ⟨?_, ?_, ?_, ?_, ?_, ?_, ?_, ?_, ?_, ?_⟩
        · show isWv (_ / 2)
          first | exact hw | (rw [← e]; exact hw)
        · rfl
        · rfl
        · rfl
        · exact Or.inr rfl
        · rfl
        · rfl
        · rfl
        · rfl
        · rfl
      · have hb1 : RB0 (upd reg 15 (mem (reg 15 / 2 - 2).toNatClampNeg)) mem tz tp tt tb l0 l1 (upd g 99 (mem (reg 15 / 2 - 2).toNatClampNeg)) := by
          refine RB0_q h (RMem_c h.1 (fun k hk => pk_un (by omega))) ?_ (fun k hk => by repeat rw [pk_un (by omega)]) (fun k hk => pk_un (by omega))
          obtain ⟨s1, s2, s3, s4⟩ := hRQ
          refine ⟨?_, ?_, ?_, ?_⟩ <;> simp (decide := true) only [upd_at, if_true, if_false, if_true, if_false, true_implies, false_implies, implies_true, not_true_eq_false, not_false_eq_true, and_true, true_and, and_self, or_true, true_or] <;> first | exact s1 | exact s2 | exact s3 | exact s4 | rfl | trivial | exact fun _ => ⟨e0, hb⟩
        exact RB0_c hb1 (fun k hk => by
          show upd (upd (upd (upd (upd (upd (upd _ 4 _) 3 _) 5 _) 6 _) 0 _) 1 _) 2 _ k = _
          repeat rw [pk_un (show k ≠ _ by omega)]) (fun k hk => by
          rw [pk_un (by omega), pk_un (by omega), pk_un (by omega), pk_un (by omega), pk_un (by omega), pk_un (by omega), pk_un (by omega), pk_un (by omega)])
  · refine ⟨by simp (decide := true) only [OX3_take, c1, v1, isProc9_0 hp, if_true, if_false, true_implies, false_implies, implies_true, not_true_eq_false, not_false_eq_true, and_true, true_and, and_self, or_true, true_or], by simp (decide := true) only [OX10_take, oa, ga, e8, oisP10, isProc10_0 hp, needs_bad, fb_46, if_true, if_false, true_implies, false_implies, implies_true, not_true_eq_false, not_false_eq_true, and_true, true_and, and_self, or_true, true_or], Or.inr ⟨by simp (decide := true) only [FX3_take, c1, isProc9_0 hp, if_true, if_false], by simp (decide := true) only [FX10_take, ga, e8, isProc10_0 hp, needs_bad, fb_46, if_true, if_false]⟩⟩
end TAKE
