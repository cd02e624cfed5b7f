/-! PURE: words at a link (GENERATED, wip/gen/p/28.py) -/
theorem RLk_s0 {l g : mF} {x C : Int32} {c : Nat} (h : RLk l 154 g) (hx : isP x) (h8 : c ≤ 8) (hC : isAr C c) : RLk (upd (upd (upd (upd l 0 x) 1 C) 2 (nI c)) 3 (nI c)) 154 (upd (upd (upd (upd g 154 x) 155 C) 156 (nI c)) 157 (nI c)) := by
  obtain ⟨h1, h2, h3, h4⟩ := h
  obtain ⟨a, rfl, ha⟩ := hC
  refine ⟨⟨?_, fun _ => ⟨?_, ?_, ?_, ?_, a, c, ?_, ?_, by omega, h8⟩, fun q => ?_⟩, ?_, ?_, ?_⟩
  · simp only [upd_at]; rfl
  · simp only [upd_at]; exact hx
  · simp only [upd_at]; rfl
  · simp only [upd_at]; rfl
  · simp only [upd_at]; rfl
  · simp only [upd_at]; rfl
  · simp only [upd_at]; rfl
  · exfalso
    simp (decide := true) only [upd_at, if_true, if_false] at q
    rw [q] at hx
    exact pNN hx rfl
  · simp (decide := true) only [upd_at, if_true, if_false, Nat.reduceAdd]
    exact h2
  · simp (decide := true) only [upd_at, if_true, if_false, Nat.reduceAdd]
    exact h3
  · simp (decide := true) only [upd_at, if_true, if_false, Nat.reduceAdd]
    exact h4
theorem RLk_r0 {l g : mF} {x C : Int32} {c : Nat} (h : RLk l 154 g) (hx : isP x) (h1' : 1 ≤ c) (h8 : c ≤ 8) (hC : isAr C c) : RLk (upd (upd (upd l 4 x) 5 C) 6 (nI c)) 154 (upd (upd (upd g 158 x) 159 C) 160 (nI c)) := by
  obtain ⟨h1, h2, h3, h4⟩ := h
  obtain ⟨a, rfl, ha⟩ := hC
  refine ⟨?_, ⟨?_, fun _ => ⟨?_, ?_, ?_, a, c, ?_, ?_, h1', h8, by omega⟩, fun q => ?_⟩, ?_, ?_⟩
  · simp (decide := true) only [upd_at, if_true, if_false, Nat.reduceAdd]
    exact h1
  · simp only [upd_at]; rfl
  · simp only [upd_at]; exact hx
  · simp only [upd_at]; rfl
  · simp only [upd_at]; rfl
  · simp only [upd_at]; rfl
  · simp only [upd_at]; rfl
  · exfalso
    simp (decide := true) only [upd_at, if_true, if_false] at q
    rw [q] at hx
    exact pNN hx rfl
  · simp (decide := true) only [upd_at, if_true, if_false, Nat.reduceAdd]
    exact h3
  · simp (decide := true) only [upd_at, if_true, if_false, Nat.reduceAdd]
    exact h4
theorem RB0_l0 {reg mem tz tp tt tb l0 l1 g g' l : mF} (h : RB0 reg mem tz tp tt tb l0 l1 g) (hg : ∀ k, k < 154 ∨ 164 ≤ k → g' k = g k) (hl : RLk l 154 g') : RB0 reg mem tz tp tt tb l l1 g' := by
  obtain ⟨h1, h2, h3, h4, h5, h6, h7⟩ := h
  exact ⟨RMem_c h1 (fun k hk => hg k (by omega)), RQ_c h2 (fun _ _ _ => rfl) (fun k a c => hg k (by omega)), RRest_c h3 (fun _ _ _ => rfl) (fun k a c => hg k (by omega)), RClk_c h4 (fun _ _ _ => rfl) (fun k a c => hg k (by omega)), RT_c h5 (fun k a c => hg k (by omega)), hl, RLk_c h7 (fun k a c => hg k (by omega))⟩
theorem RLk_s1 {l g : mF} {x C : Int32} {c : Nat} (h : RLk l 164 g) (hx : isP x) (h8 : c ≤ 8) (hC : isAr C c) : RLk (upd (upd (upd (upd l 0 x) 1 C) 2 (nI c)) 3 (nI c)) 164 (upd (upd (upd (upd g 164 x) 165 C) 166 (nI c)) 167 (nI c)) := by
  obtain ⟨h1, h2, h3, h4⟩ := h
  obtain ⟨a, rfl, ha⟩ := hC
  refine ⟨⟨?_, fun _ => ⟨?_, ?_, ?_, ?_, a, c, ?_, ?_, by omega, h8⟩, fun q => ?_⟩, ?_, ?_, ?_⟩
  · simp only [upd_at]; rfl
  · simp only [upd_at]; exact hx
  · simp only [upd_at]; rfl
  · simp only [upd_at]; rfl
  · simp only [upd_at]; rfl
  · simp only [upd_at]; rfl
  · simp only [upd_at]; rfl
  · exfalso
    simp (decide := true) only [upd_at, if_true, if_false] at q
    rw [q] at hx
    exact pNN hx rfl
  · simp (decide := true) only [upd_at, if_true, if_false, Nat.reduceAdd]
    exact h2
  · simp (decide := true) only [upd_at, if_true, if_false, Nat.reduceAdd]
    exact h3
  · simp (decide := true) only [upd_at, if_true, if_false, Nat.reduceAdd]
    exact h4
theorem RLk_r1 {l g : mF} {x C : Int32} {c : Nat} (h : RLk l 164 g) (hx : isP x) (h1' : 1 ≤ c) (h8 : c ≤ 8) (hC : isAr C c) : RLk (upd (upd (upd l 4 x) 5 C) 6 (nI c)) 164 (upd (upd (upd g 168 x) 169 C) 170 (nI c)) := by
  obtain ⟨h1, h2, h3, h4⟩ := h
  obtain ⟨a, rfl, ha⟩ := hC
  refine ⟨?_, ⟨?_, fun _ => ⟨?_, ?_, ?_, a, c, ?_, ?_, h1', h8, by omega⟩, fun q => ?_⟩, ?_, ?_⟩
  · simp (decide := true) only [upd_at, if_true, if_false, Nat.reduceAdd]
    exact h1
  · simp only [upd_at]; rfl
  · simp only [upd_at]; exact hx
  · simp only [upd_at]; rfl
  · simp only [upd_at]; rfl
  · simp only [upd_at]; rfl
  · simp only [upd_at]; rfl
  · exfalso
    simp (decide := true) only [upd_at, if_true, if_false] at q
    rw [q] at hx
    exact pNN hx rfl
  · simp (decide := true) only [upd_at, if_true, if_false, Nat.reduceAdd]
    exact h3
  · simp (decide := true) only [upd_at, if_true, if_false, Nat.reduceAdd]
    exact h4
theorem RB0_l1 {reg mem tz tp tt tb l0 l1 g g' l : mF} (h : RB0 reg mem tz tp tt tb l0 l1 g) (hg : ∀ k, k < 164 ∨ 174 ≤ k → g' k = g k) (hl : RLk l 164 g') : RB0 reg mem tz tp tt tb l0 l g' := by
  obtain ⟨h1, h2, h3, h4, h5, h6, h7⟩ := h
  exact ⟨RMem_c h1 (fun k hk => hg k (by omega)), RQ_c h2 (fun _ _ _ => rfl) (fun k a c => hg k (by omega)), RRest_c h3 (fun _ _ _ => rfl) (fun k a c => hg k (by omega)), RClk_c h4 (fun _ _ _ => rfl) (fun k a c => hg k (by omega)), RT_c h5 (fun k a c => hg k (by omega)), RLk_c h6 (fun k a c => hg k (by omega)), hl⟩
def ResL (r : Int32 × mF × mF × mF × mF) (m : Int32 × mF × mF) (f : mF) (b : Nat) (n g reg mem tz tp tt tb l0 l1 : mF) : Prop :=
  (r.1 = 1 ∧ ∃ g', m = (0, fb f 0, emb b n g') ∧ ROff r.2.1 g' ∧ RB0 r.2.1 r.2.2.1 tz tp tt tb r.2.2.2.1 r.2.2.2.2 g') ∨ (r = (0, reg, mem, l0, l1) ∧ m = (0, fb f 1, emb b n g))
theorem RW_h {reg g g' : mF} (h : RW reg g) (hg : ∀ k, k < 154 → g' k = g k) : RW reg g' := RW_c h (fun _ _ _ => rfl) (fun k a c _ _ _ => hg k (by omega))
theorem vp02 : vp_in 0 2 := vp_in_nI (show (0:Nat) < 2 by decide) (by decide)
theorem vp12 : vp_in 1 2 := vp_in_nI (show (1:Nat) < 2 by decide) (by decide)
section LNK
variable {f n g reg mem tz tp tt tb l0 l1 : mF} {b : Nat}
theorem link_00 (H : Hb f b) (h : RW reg g) (h2 : RB0 reg mem tz tp tt tb l0 l1 g) {C : Int32} {c : Nat} (h1 : 1 ≤ c) (h8 : c ≤ 8) (hC : isAr C c) : OX3_useLink 0 (0 - 2) C (nI c) reg mem l0 l1 ∧ OX10_passesLink 0 (nI c) C 0 (fb f 0) (emb b n g) ∧ ResL (FX3_useLink 0 (0 - 2) C (nI c) reg mem l0 l1) (FX10_passesLink 0 (nI c) C 0 (fb f 0) (emb b n g)) f b n g reg mem tz tp tt tb l0 l1 := by
  have ga : ∀ z G, FX10_get ((154 + 10 * (0 &&& 1)) + 4) (fb f z) (emb b n G) = G 158 := fun z G => get_e H (by decide) (by decide)
  have oa : ∀ z m, OX10_get ((154 + 10 * (0 &&& 1)) + 4) (fb f z) m = True := fun z m => oget_e H (k := 158) (by decide) (by decide)
  refine ⟨by simp (decide := true) only [OX3_useLink, vp02, vp12, show ((0 : Int32) - 2) = -2 from by decide, if_true, if_false, true_implies, false_implies, implies_true, not_true_eq_false, not_false_eq_true, and_true, true_and, and_self, or_true, true_or], by simp (decide := true) only [OX10_passesLink, OX10_passesLink_b2, OX10_passesLink_b6, needs_bad, needs_1, fb_46, oa, ga, ite_self, if_true, if_false, true_implies, false_implies, implies_true, not_true_eq_false, not_false_eq_true, and_true, true_and, and_self, or_true, true_or], Or.inr ⟨by simp (decide := true) only [FX3_useLink, show ((0 : Int32) - 2) = -2 from by decide, if_true, if_false], by simp (decide := true) only [FX10_passesLink, FX10_passesLink_b2, FX10_passesLink_b6, needs_bad, needs_1, fb_46, ga, ite_self, if_true, if_false]⟩⟩
theorem link_01 (H : Hb f b) (h : RW reg g) (h2 : RB0 reg mem tz tp tt tb l0 l1 g) {C : Int32} {c : Nat} (h1 : 1 ≤ c) (h8 : c ≤ 8) (hC : isAr C c) : OX3_useLink 1 0 C (nI c) reg mem l0 l1 ∧ OX10_passesLink 0 (nI c) C 1 (fb f 0) (emb b n g) ∧ ResL (FX3_useLink 1 0 C (nI c) reg mem l0 l1) (FX10_passesLink 0 (nI c) C 1 (fb f 0) (emb b n g)) f b n g reg mem tz tp tt tb l0 l1 := by
  have ga : ∀ z G, FX10_get ((154 + 10 * (0 &&& 1)) + 0) (fb f z) (emb b n G) = G 154 := fun z G => get_e H (by decide) (by decide)
  have oa : ∀ z m, OX10_get ((154 + 10 * (0 &&& 1)) + 0) (fb f z) m = True := fun z m => oget_e H (k := 154) (by decide) (by decide)
  have s0 : ∀ z G v, FX10_set ((154 + 10 * (0 &&& 1)) + 0) v (fb f z) (emb b n G) = (0, emb b n (upd G 154 v)) := fun z G v => set_e H (by decide) (by decide)
  have os0 : ∀ z m v, OX10_set ((154 + 10 * (0 &&& 1)) + 0) v (fb f z) m = True := fun z m v => oset_e H (k := 154) (by decide) (by decide)
  have s1 : ∀ z G v, FX10_set (((154 + 10 * (0 &&& 1)) + 0) + 1) v (fb f z) (emb b n G) = (0, emb b n (upd G 155 v)) := fun z G v => set_e H (by decide) (by decide)
  have os1 : ∀ z m v, OX10_set (((154 + 10 * (0 &&& 1)) + 0) + 1) v (fb f z) m = True := fun z m v => oset_e H (k := 155) (by decide) (by decide)
  have s2 : ∀ z G v, FX10_set (((154 + 10 * (0 &&& 1)) + 0) + 2) v (fb f z) (emb b n G) = (0, emb b n (upd G 156 v)) := fun z G v => set_e H (by decide) (by decide)
  have os2 : ∀ z m v, OX10_set (((154 + 10 * (0 &&& 1)) + 0) + 2) v (fb f z) m = True := fun z m v => oset_e H (k := 156) (by decide) (by decide)
  have s3 : ∀ z G v, FX10_set (((154 + 10 * (0 &&& 1)) + 0) + 3) v (fb f z) (emb b n G) = (0, emb b n (upd G 157 v)) := fun z G v => set_e H (by decide) (by decide)
  have os3 : ∀ z m v, OX10_set (((154 + 10 * (0 &&& 1)) + 0) + 3) v (fb f z) m = True := fun z m v => oset_e H (k := 157) (by decide) (by decide)
  obtain ⟨w1, w2, -, -⟩ := own_w h
  have ea : g 154 = l0 0 := h2.2.2.2.2.2.1.1.1
  by_cases e : l0 0 = -1
  · have r1 := RW_h (g' := (upd (upd (upd (upd g 154 (FX3_own reg)) 155 C) 156 (nI c)) 157 (nI c))) h (fun k hk => by repeat rw [pk_un (by omega)])
    have r2 := RB0_l0 (g' := (upd (upd (upd (upd g 154 (FX3_own reg)) 155 C) 156 (nI c)) 157 (nI c))) h2 (fun k hk => by repeat rw [pk_un (by omega)]) (RLk_s0 h2.2.2.2.2.2.1 w2 h8 hC)
    obtain ⟨o1, o2, o3⟩ := goOff_w r1 r2
    have o4 := off_w (n := n) H r1
    have o5 : OX3_goOff reg mem := o1
    refine ⟨by simp (decide := true) only [OX3_useLink, vp02, vp12, e, o5, if_true, if_false, true_implies, false_implies, implies_true, not_true_eq_false, not_false_eq_true, and_true, true_and, and_self, or_true, true_or], by simp (decide := true) only [OX10_passesLink, OX10_passesLink_b2, OX10_passesLink_b6, needs_ok one0, fb_46, oa, ga, ea, e, oown H, own_e H, w1, s0, s1, s2, s3, os0, os1, os2, os3, ooff H (Or.inl rfl), if_true, if_false, true_implies, false_implies, implies_true, not_true_eq_false, not_false_eq_true, and_true, true_and, and_self, or_true, true_or], Or.inl ⟨by simp (decide := true) only [FX3_useLink, e, if_true, if_false], _, by simp (decide := true) only [FX10_passesLink, FX10_passesLink_b2, FX10_passesLink_b6, needs_ok one0, fb_46, ga, ea, e, own_e H, w1, s0, s1, s2, s3, o4, if_true, if_false] <;> rfl, ?_⟩⟩
    simp (decide := true) only [FX3_useLink, e, if_true, if_false]
    exact ⟨o2, o3⟩
  · refine ⟨by simp (decide := true) only [OX3_useLink, vp02, vp12, e, if_true, if_false, true_implies, false_implies, implies_true, not_true_eq_false, not_false_eq_true, and_true, true_and, and_self, or_true, true_or], by simp (decide := true) only [OX10_passesLink, OX10_passesLink_b2, OX10_passesLink_b6, needs_ok one0, needs_bad, fb_46, oa, ga, ea, e, if_true, if_false, true_implies, false_implies, implies_true, not_true_eq_false, not_false_eq_true, and_true, true_and, and_self, or_true, true_or], Or.inr ⟨by simp (decide := true) only [FX3_useLink, e, if_true, if_false], by simp (decide := true) only [FX10_passesLink, FX10_passesLink_b2, FX10_passesLink_b6, needs_ok one0, needs_bad, fb_46, ga, ea, e, if_true, if_false]⟩⟩
theorem link_10 (H : Hb f b) (h : RW reg g) (h2 : RB0 reg mem tz tp tt tb l0 l1 g) {C : Int32} {c : Nat} (h1 : 1 ≤ c) (h8 : c ≤ 8) (hC : isAr C c) : OX3_useLink 0 (1 - 2) C (nI c) reg mem l0 l1 ∧ OX10_passesLink 1 (nI c) C 0 (fb f 0) (emb b n g) ∧ ResL (FX3_useLink 0 (1 - 2) C (nI c) reg mem l0 l1) (FX10_passesLink 1 (nI c) C 0 (fb f 0) (emb b n g)) f b n g reg mem tz tp tt tb l0 l1 := by
  have ga : ∀ z G, FX10_get ((154 + 10 * (1 &&& 1)) + 4) (fb f z) (emb b n G) = G 168 := fun z G => get_e H (by decide) (by decide)
  have oa : ∀ z m, OX10_get ((154 + 10 * (1 &&& 1)) + 4) (fb f z) m = True := fun z m => oget_e H (k := 168) (by decide) (by decide)
  refine ⟨by simp (decide := true) only [OX3_useLink, vp02, vp12, show ((1 : Int32) - 2) = -1 from by decide, if_true, if_false, true_implies, false_implies, implies_true, not_true_eq_false, not_false_eq_true, and_true, true_and, and_self, or_true, true_or], by simp (decide := true) only [OX10_passesLink, OX10_passesLink_b2, OX10_passesLink_b6, needs_bad, needs_1, fb_46, oa, ga, ite_self, if_true, if_false, true_implies, false_implies, implies_true, not_true_eq_false, not_false_eq_true, and_true, true_and, and_self, or_true, true_or], Or.inr ⟨by simp (decide := true) only [FX3_useLink, show ((1 : Int32) - 2) = -1 from by decide, if_true, if_false], by simp (decide := true) only [FX10_passesLink, FX10_passesLink_b2, FX10_passesLink_b6, needs_bad, needs_1, fb_46, ga, ite_self, if_true, if_false]⟩⟩
theorem link_11 (H : Hb f b) (h : RW reg g) (h2 : RB0 reg mem tz tp tt tb l0 l1 g) {C : Int32} {c : Nat} (h1 : 1 ≤ c) (h8 : c ≤ 8) (hC : isAr C c) : OX3_useLink 1 1 C (nI c) reg mem l0 l1 ∧ OX10_passesLink 1 (nI c) C 1 (fb f 0) (emb b n g) ∧ ResL (FX3_useLink 1 1 C (nI c) reg mem l0 l1) (FX10_passesLink 1 (nI c) C 1 (fb f 0) (emb b n g)) f b n g reg mem tz tp tt tb l0 l1 := by
  have ga : ∀ z G, FX10_get ((154 + 10 * (1 &&& 1)) + 0) (fb f z) (emb b n G) = G 164 := fun z G => get_e H (by decide) (by decide)
  have oa : ∀ z m, OX10_get ((154 + 10 * (1 &&& 1)) + 0) (fb f z) m = True := fun z m => oget_e H (k := 164) (by decide) (by decide)
  have s0 : ∀ z G v, FX10_set ((154 + 10 * (1 &&& 1)) + 0) v (fb f z) (emb b n G) = (0, emb b n (upd G 164 v)) := fun z G v => set_e H (by decide) (by decide)
  have os0 : ∀ z m v, OX10_set ((154 + 10 * (1 &&& 1)) + 0) v (fb f z) m = True := fun z m v => oset_e H (k := 164) (by decide) (by decide)
  have s1 : ∀ z G v, FX10_set (((154 + 10 * (1 &&& 1)) + 0) + 1) v (fb f z) (emb b n G) = (0, emb b n (upd G 165 v)) := fun z G v => set_e H (by decide) (by decide)
  have os1 : ∀ z m v, OX10_set (((154 + 10 * (1 &&& 1)) + 0) + 1) v (fb f z) m = True := fun z m v => oset_e H (k := 165) (by decide) (by decide)
  have s2 : ∀ z G v, FX10_set (((154 + 10 * (1 &&& 1)) + 0) + 2) v (fb f z) (emb b n G) = (0, emb b n (upd G 166 v)) := fun z G v => set_e H (by decide) (by decide)
  have os2 : ∀ z m v, OX10_set (((154 + 10 * (1 &&& 1)) + 0) + 2) v (fb f z) m = True := fun z m v => oset_e H (k := 166) (by decide) (by decide)
  have s3 : ∀ z G v, FX10_set (((154 + 10 * (1 &&& 1)) + 0) + 3) v (fb f z) (emb b n G) = (0, emb b n (upd G 167 v)) := fun z G v => set_e H (by decide) (by decide)
  have os3 : ∀ z m v, OX10_set (((154 + 10 * (1 &&& 1)) + 0) + 3) v (fb f z) m = True := fun z m v => oset_e H (k := 167) (by decide) (by decide)
  obtain ⟨w1, w2, -, -⟩ := own_w h
  have ea : g 164 = l1 0 := h2.2.2.2.2.2.2.1.1
  by_cases e : l1 0 = -1
  · have r1 := RW_h (g' := (upd (upd (upd (upd g 164 (FX3_own reg)) 165 C) 166 (nI c)) 167 (nI c))) h (fun k hk => by repeat rw [pk_un (by omega)])
    have r2 := RB0_l1 (g' := (upd (upd (upd (upd g 164 (FX3_own reg)) 165 C) 166 (nI c)) 167 (nI c))) h2 (fun k hk => by repeat rw [pk_un (by omega)]) (RLk_s1 h2.2.2.2.2.2.2 w2 h8 hC)
    obtain ⟨o1, o2, o3⟩ := goOff_w r1 r2
    have o4 := off_w (n := n) H r1
    have o5 : OX3_goOff reg mem := o1
    refine ⟨by simp (decide := true) only [OX3_useLink, vp02, vp12, e, o5, if_true, if_false, true_implies, false_implies, implies_true, not_true_eq_false, not_false_eq_true, and_true, true_and, and_self, or_true, true_or], by simp (decide := true) only [OX10_passesLink, OX10_passesLink_b2, OX10_passesLink_b6, needs_ok one0, fb_46, oa, ga, ea, e, oown H, own_e H, w1, s0, s1, s2, s3, os0, os1, os2, os3, ooff H (Or.inl rfl), if_true, if_false, true_implies, false_implies, implies_true, not_true_eq_false, not_false_eq_true, and_true, true_and, and_self, or_true, true_or], Or.inl ⟨by simp (decide := true) only [FX3_useLink, e, if_true, if_false], _, by simp (decide := true) only [FX10_passesLink, FX10_passesLink_b2, FX10_passesLink_b6, needs_ok one0, fb_46, ga, ea, e, own_e H, w1, s0, s1, s2, s3, o4, if_true, if_false] <;> rfl, ?_⟩⟩
    simp (decide := true) only [FX3_useLink, e, if_true, if_false]
    exact ⟨o2, o3⟩
  · refine ⟨by simp (decide := true) only [OX3_useLink, vp02, vp12, e, if_true, if_false, true_implies, false_implies, implies_true, not_true_eq_false, not_false_eq_true, and_true, true_and, and_self, or_true, true_or], by simp (decide := true) only [OX10_passesLink, OX10_passesLink_b2, OX10_passesLink_b6, needs_ok one0, needs_bad, fb_46, oa, ga, ea, e, if_true, if_false, true_implies, false_implies, implies_true, not_true_eq_false, not_false_eq_true, and_true, true_and, and_self, or_true, true_or], Or.inr ⟨by simp (decide := true) only [FX3_useLink, e, if_true, if_false], by simp (decide := true) only [FX10_passesLink, FX10_passesLink_b2, FX10_passesLink_b6, needs_ok one0, needs_bad, fb_46, ga, ea, e, if_true, if_false]⟩⟩
theorem link_20 (H : Hb f b) (h : RW reg g) (h2 : RB0 reg mem tz tp tt tb l0 l1 g) {C : Int32} {c : Nat} (h1 : 1 ≤ c) (h8 : c ≤ 8) (hC : isAr C c) : OX3_useLink 0 (2 - 2) C (nI c) reg mem l0 l1 ∧ OX10_passesLink 2 (nI c) C 0 (fb f 0) (emb b n g) ∧ ResL (FX3_useLink 0 (2 - 2) C (nI c) reg mem l0 l1) (FX10_passesLink 2 (nI c) C 0 (fb f 0) (emb b n g)) f b n g reg mem tz tp tt tb l0 l1 := by
  have ga : ∀ z G, FX10_get ((154 + 10 * (2 &&& 1)) + 4) (fb f z) (emb b n G) = G 158 := fun z G => get_e H (by decide) (by decide)
  have oa : ∀ z m, OX10_get ((154 + 10 * (2 &&& 1)) + 4) (fb f z) m = True := fun z m => oget_e H (k := 158) (by decide) (by decide)
  have s0 : ∀ z G v, FX10_set ((154 + 10 * (2 &&& 1)) + 4) v (fb f z) (emb b n G) = (0, emb b n (upd G 158 v)) := fun z G v => set_e H (by decide) (by decide)
  have os0 : ∀ z m v, OX10_set ((154 + 10 * (2 &&& 1)) + 4) v (fb f z) m = True := fun z m v => oset_e H (k := 158) (by decide) (by decide)
  have s1 : ∀ z G v, FX10_set (((154 + 10 * (2 &&& 1)) + 4) + 1) v (fb f z) (emb b n G) = (0, emb b n (upd G 159 v)) := fun z G v => set_e H (by decide) (by decide)
  have os1 : ∀ z m v, OX10_set (((154 + 10 * (2 &&& 1)) + 4) + 1) v (fb f z) m = True := fun z m v => oset_e H (k := 159) (by decide) (by decide)
  have s2 : ∀ z G v, FX10_set (((154 + 10 * (2 &&& 1)) + 4) + 2) v (fb f z) (emb b n G) = (0, emb b n (upd G 160 v)) := fun z G v => set_e H (by decide) (by decide)
  have os2 : ∀ z m v, OX10_set (((154 + 10 * (2 &&& 1)) + 4) + 2) v (fb f z) m = True := fun z m v => oset_e H (k := 160) (by decide) (by decide)
  obtain ⟨w1, w2, -, -⟩ := own_w h
  have ea : g 158 = l0 4 := h2.2.2.2.2.2.1.2.1.1
  by_cases e : l0 4 = -1
  · have r1 := RW_h (g' := (upd (upd (upd g 158 (FX3_own reg)) 159 C) 160 (nI c))) h (fun k hk => by repeat rw [pk_un (by omega)])
    have r2 := RB0_l0 (g' := (upd (upd (upd g 158 (FX3_own reg)) 159 C) 160 (nI c))) h2 (fun k hk => by repeat rw [pk_un (by omega)]) (RLk_r0 h2.2.2.2.2.2.1 w2 h1 h8 hC)
    obtain ⟨o1, o2, o3⟩ := goOff_w r1 r2
    have o4 := off_w (n := n) H r1
    have o5 : OX3_goOff reg mem := o1
    refine ⟨by simp (decide := true) only [OX3_useLink, vp02, vp12, show ((2 : Int32) - 2) = 0 from by decide, e, o5, if_true, if_false, true_implies, false_implies, implies_true, not_true_eq_false, not_false_eq_true, and_true, true_and, and_self, or_true, true_or], by simp (decide := true) only [OX10_passesLink, OX10_passesLink_b2, OX10_passesLink_b6, needs_ok one0, fb_46, oa, ga, ea, e, oown H, own_e H, w1, s0, s1, s2, os0, os1, os2, ooff H (Or.inl rfl), if_true, if_false, true_implies, false_implies, implies_true, not_true_eq_false, not_false_eq_true, and_true, true_and, and_self, or_true, true_or], Or.inl ⟨by simp (decide := true) only [FX3_useLink, show ((2 : Int32) - 2) = 0 from by decide, e, if_true, if_false], _, by simp (decide := true) only [FX10_passesLink, FX10_passesLink_b2, FX10_passesLink_b6, needs_ok one0, fb_46, ga, ea, e, own_e H, w1, s0, s1, s2, o4, if_true, if_false] <;> rfl, ?_⟩⟩
    simp (decide := true) only [FX3_useLink, show ((2 : Int32) - 2) = 0 from by decide, e, if_true, if_false]
    exact ⟨o2, o3⟩
  · refine ⟨by simp (decide := true) only [OX3_useLink, vp02, vp12, show ((2 : Int32) - 2) = 0 from by decide, e, if_true, if_false, true_implies, false_implies, implies_true, not_true_eq_false, not_false_eq_true, and_true, true_and, and_self, or_true, true_or], by simp (decide := true) only [OX10_passesLink, OX10_passesLink_b2, OX10_passesLink_b6, needs_ok one0, needs_bad, fb_46, oa, ga, ea, e, if_true, if_false, true_implies, false_implies, implies_true, not_true_eq_false, not_false_eq_true, and_true, true_and, and_self, or_true, true_or], Or.inr ⟨by simp (decide := true) only [FX3_useLink, show ((2 : Int32) - 2) = 0 from by decide, e, if_true, if_false], by simp (decide := true) only [FX10_passesLink, FX10_passesLink_b2, FX10_passesLink_b6, needs_ok one0, needs_bad, fb_46, ga, ea, e, if_true, if_false]⟩⟩
theorem link_21 (H : Hb f b) (h : RW reg g) (h2 : RB0 reg mem tz tp tt tb l0 l1 g) {C : Int32} {c : Nat} (h1 : 1 ≤ c) (h8 : c ≤ 8) (hC : isAr C c) : OX3_useLink 1 2 C (nI c) reg mem l0 l1 ∧ OX10_passesLink 2 (nI c) C 1 (fb f 0) (emb b n g) ∧ ResL (FX3_useLink 1 2 C (nI c) reg mem l0 l1) (FX10_passesLink 2 (nI c) C 1 (fb f 0) (emb b n g)) f b n g reg mem tz tp tt tb l0 l1 := by
  have ga : ∀ z G, FX10_get ((154 + 10 * (2 &&& 1)) + 0) (fb f z) (emb b n G) = G 154 := fun z G => get_e H (by decide) (by decide)
  have oa : ∀ z m, OX10_get ((154 + 10 * (2 &&& 1)) + 0) (fb f z) m = True := fun z m => oget_e H (k := 154) (by decide) (by decide)
  refine ⟨by simp (decide := true) only [OX3_useLink, vp02, vp12, if_true, if_false, true_implies, false_implies, implies_true, not_true_eq_false, not_false_eq_true, and_true, true_and, and_self, or_true, true_or], by simp (decide := true) only [OX10_passesLink, OX10_passesLink_b2, OX10_passesLink_b6, needs_bad, needs_1, fb_46, oa, ga, ite_self, if_true, if_false, true_implies, false_implies, implies_true, not_true_eq_false, not_false_eq_true, and_true, true_and, and_self, or_true, true_or], Or.inr ⟨by simp (decide := true) only [FX3_useLink, if_true, if_false], by simp (decide := true) only [FX10_passesLink, FX10_passesLink_b2, FX10_passesLink_b6, needs_bad, needs_1, fb_46, ga, ite_self, if_true, if_false]⟩⟩
theorem link_30 (H : Hb f b) (h : RW reg g) (h2 : RB0 reg mem tz tp tt tb l0 l1 g) {C : Int32} {c : Nat} (h1 : 1 ≤ c) (h8 : c ≤ 8) (hC : isAr C c) : OX3_useLink 0 (3 - 2) C (nI c) reg mem l0 l1 ∧ OX10_passesLink 3 (nI c) C 0 (fb f 0) (emb b n g) ∧ ResL (FX3_useLink 0 (3 - 2) C (nI c) reg mem l0 l1) (FX10_passesLink 3 (nI c) C 0 (fb f 0) (emb b n g)) f b n g reg mem tz tp tt tb l0 l1 := by
  have ga : ∀ z G, FX10_get ((154 + 10 * (3 &&& 1)) + 4) (fb f z) (emb b n G) = G 168 := fun z G => get_e H (by decide) (by decide)
  have oa : ∀ z m, OX10_get ((154 + 10 * (3 &&& 1)) + 4) (fb f z) m = True := fun z m => oget_e H (k := 168) (by decide) (by decide)
  have s0 : ∀ z G v, FX10_set ((154 + 10 * (3 &&& 1)) + 4) v (fb f z) (emb b n G) = (0, emb b n (upd G 168 v)) := fun z G v => set_e H (by decide) (by decide)
  have os0 : ∀ z m v, OX10_set ((154 + 10 * (3 &&& 1)) + 4) v (fb f z) m = True := fun z m v => oset_e H (k := 168) (by decide) (by decide)
  have s1 : ∀ z G v, FX10_set (((154 + 10 * (3 &&& 1)) + 4) + 1) v (fb f z) (emb b n G) = (0, emb b n (upd G 169 v)) := fun z G v => set_e H (by decide) (by decide)
  have os1 : ∀ z m v, OX10_set (((154 + 10 * (3 &&& 1)) + 4) + 1) v (fb f z) m = True := fun z m v => oset_e H (k := 169) (by decide) (by decide)
  have s2 : ∀ z G v, FX10_set (((154 + 10 * (3 &&& 1)) + 4) + 2) v (fb f z) (emb b n G) = (0, emb b n (upd G 170 v)) := fun z G v => set_e H (by decide) (by decide)
  have os2 : ∀ z m v, OX10_set (((154 + 10 * (3 &&& 1)) + 4) + 2) v (fb f z) m = True := fun z m v => oset_e H (k := 170) (by decide) (by decide)
  obtain ⟨w1, w2, -, -⟩ := own_w h
  have ea : g 168 = l1 4 := h2.2.2.2.2.2.2.2.1.1
  by_cases e : l1 4 = -1
  · have r1 := RW_h (g' := (upd (upd (upd g 168 (FX3_own reg)) 169 C) 170 (nI c))) h (fun k hk => by repeat rw [pk_un (by omega)])
    have r2 := RB0_l1 (g' := (upd (upd (upd g 168 (FX3_own reg)) 169 C) 170 (nI c))) h2 (fun k hk => by repeat rw [pk_un (by omega)]) (RLk_r1 h2.2.2.2.2.2.2 w2 h1 h8 hC)
    obtain ⟨o1, o2, o3⟩ := goOff_w r1 r2
    have o4 := off_w (n := n) H r1
    have o5 : OX3_goOff reg mem := o1
    refine ⟨by simp (decide := true) only [OX3_useLink, vp02, vp12, show ((3 : Int32) - 2) = 1 from by decide, e, o5, if_true, if_false, true_implies, false_implies, implies_true, not_true_eq_false, not_false_eq_true, and_true, true_and, and_self, or_true, true_or], by simp (decide := true) only [OX10_passesLink, OX10_passesLink_b2, OX10_passesLink_b6, needs_ok one0, fb_46, oa, ga, ea, e, oown H, own_e H, w1, s0, s1, s2, os0, os1, os2, ooff H (Or.inl rfl), if_true, if_false, true_implies, false_implies, implies_true, not_true_eq_false, not_false_eq_true, and_true, true_and, and_self, or_true, true_or], Or.inl ⟨by simp (decide := true) only [FX3_useLink, show ((3 : Int32) - 2) = 1 from by decide, e, if_true, if_false], _, by simp (decide := true) only [FX10_passesLink, FX10_passesLink_b2, FX10_passesLink_b6, needs_ok one0, fb_46, ga, ea, e, own_e H, w1, s0, s1, s2, o4, if_true, if_false] <;> rfl, ?_⟩⟩
    simp (decide := true) only [FX3_useLink, show ((3 : Int32) - 2) = 1 from by decide, e, if_true, if_false]
    exact ⟨o2, o3⟩
  · refine ⟨by simp (decide := true) only [OX3_useLink, vp02, vp12, show ((3 : Int32) - 2) = 1 from by decide, e, if_true, if_false, true_implies, false_implies, implies_true, not_true_eq_false, not_false_eq_true, and_true, true_and, and_self, or_true, true_or], by simp (decide := true) only [OX10_passesLink, OX10_passesLink_b2, OX10_passesLink_b6, needs_ok one0, needs_bad, fb_46, oa, ga, ea, e, if_true, if_false, true_implies, false_implies, implies_true, not_true_eq_false, not_false_eq_true, and_true, true_and, and_self, or_true, true_or], Or.inr ⟨by simp (decide := true) only [FX3_useLink, show ((3 : Int32) - 2) = 1 from by decide, e, if_true, if_false], by simp (decide := true) only [FX10_passesLink, FX10_passesLink_b2, FX10_passesLink_b6, needs_ok one0, needs_bad, fb_46, ga, ea, e, if_true, if_false]⟩⟩
theorem link_31 (H : Hb f b) (h : RW reg g) (h2 : RB0 reg mem tz tp tt tb l0 l1 g) {C : Int32} {c : Nat} (h1 : 1 ≤ c) (h8 : c ≤ 8) (hC : isAr C c) : OX3_useLink 1 3 C (nI c) reg mem l0 l1 ∧ OX10_passesLink 3 (nI c) C 1 (fb f 0) (emb b n g) ∧ ResL (FX3_useLink 1 3 C (nI c) reg mem l0 l1) (FX10_passesLink 3 (nI c) C 1 (fb f 0) (emb b n g)) f b n g reg mem tz tp tt tb l0 l1 := by
  have ga : ∀ z G, FX10_get ((154 + 10 * (3 &&& 1)) + 0) (fb f z) (emb b n G) = G 164 := fun z G => get_e H (by decide) (by decide)
  have oa : ∀ z m, OX10_get ((154 + 10 * (3 &&& 1)) + 0) (fb f z) m = True := fun z m => oget_e H (k := 164) (by decide) (by decide)
  refine ⟨by simp (decide := true) only [OX3_useLink, vp02, vp12, if_true, if_false, true_implies, false_implies, implies_true, not_true_eq_false, not_false_eq_true, and_true, true_and, and_self, or_true, true_or], by simp (decide := true) only [OX10_passesLink, OX10_passesLink_b2, OX10_passesLink_b6, needs_bad, needs_1, fb_46, oa, ga, ite_self, if_true, if_false, true_implies, false_implies, implies_true, not_true_eq_false, not_false_eq_true, and_true, true_and, and_self, or_true, true_or], Or.inr ⟨by simp (decide := true) only [FX3_useLink, if_true, if_false], by simp (decide := true) only [FX10_passesLink, FX10_passesLink_b2, FX10_passesLink_b6, needs_bad, needs_1, fb_46, ga, ite_self, if_true, if_false]⟩⟩
end LNK
