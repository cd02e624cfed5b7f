/-! PURE: ways, the reference's side (GENERATED, wip/gen/p/71.py) -/
/-- where a jump goes is no number below 0 -/
def JN0 (op num : mF) (L : Nat) : Prop := ∀ k, k < L → (op k = 7 ∨ op k = 8) → ¬ num k < 0
section WYR
variable {op num fop farg this com : mF} {L : Nat}
/-- t is s with more of A -/
def XS (L : Nat) (s t : mF) (A : Nat → Prop) : Prop := (∀ j, j < L → (¬ t j = 0 ↔ ¬ s j = 0 ∨ A j)) ∧ ((∀ j, j < L → s j = 0 ∨ s j = 1) → ∀ j, j < L → t j = 0 ∨ t j = 1)
theorem XS_r {s : mF} {A : Nat → Prop} (h : ∀ j, j < L → A j → ¬ s j = 0) : XS L s s A := ⟨fun j hj => ⟨fun q => Or.inl q, fun q => q.elim id (h j hj)⟩, fun h => h⟩
theorem XS_t {s s1 s2 : mF} {A B C : Nat → Prop} (h : XS L s s1 A) (h2 : XS L s1 s2 B) (e : ∀ j, j < L → (C j ↔ A j ∨ B j)) : XS L s s2 C := by
  refine ⟨fun j hj => ?_, fun q => h2.2 (h.2 q)⟩
  rw [h2.1 j hj, h.1 j hj, e j hj]
  exact or_assoc
theorem XS_c {s s1 : mF} {A C : Nat → Prop} (h : XS L s s1 A) (e : ∀ j, j < L → (C j ↔ A j)) : XS L s s1 C := ⟨fun j hj => by rw [h.1 j hj, e j hj], h.2⟩
theorem p_comesTo (hL : L ≤ 100) (h33 : this 33 = nI L) {x : Int32} (hx : ¬ x < 0) : OX10_comesTo x this com ∧ ∃ com', FX10_comesTo x this com = (0, com') ∧ XS L com com' (fun j => x = nI j) := by
  obtain ⟨k, hk, rfl⟩ := nI_of hx
  unfold OX10_comesTo FX10_comesTo
  rw [h33]
  rcases Nat.lt_or_ge k L with q | q
  · have c2 : ¬ nI L ≤ nI k := nI_ge q (by omega)
    have ck : (nI k).toNatClampNeg = k := nI_clamp (by omega)
    have vk : vp_in (nI k) 101 := vp_in_nI (by omega) (by decide)
    rw [if_neg c2, ck]
    refine ⟨⟨fun z => absurd z c2, fun _ => vk⟩, upd com k 1, rfl, fun j hj => ?_, fun hb j hj => ?_⟩
    · rw [upd_at]
      by_cases e : j = k
      · rw [if_pos e]
        exact ⟨fun _ => Or.inr (by rw [e]), fun _ => by decide⟩
      · rw [if_neg e]
        exact ⟨fun z => Or.inl z, fun z => z.elim id (fun y => absurd ((nI_eq (by omega) (by omega)).mp y).symm e)⟩
    · rw [upd_at]
      split
      · exact Or.inr rfl
      · exact hb j hj
  · have c2 : nI L ≤ nI k := nI_le q hk
    rw [if_pos c2]
    exact ⟨⟨fun _ => trivial, fun z => absurd c2 z⟩, com, rfl, XS_r (fun j hj e => by have := (nI_eq hk (by omega)).mp e; omega)⟩
theorem p_leaves {wj bj : Int32} (hL : L ≤ 100) (h33 : this 33 = nI L) (hE : ∀ k, k < L → fop k = op k ∧ farg k = num k) (hJ : JN0 op num L) (hb : wj = 0 ↔ ¬ bj = 0) {i : Nat} (hi : i < L) : OX10_leaves_ (nI i) wj this fop farg com ∧ ∃ com', FX10_leaves_ (nI i) wj this fop farg com = (0, com') ∧ XS L com com' (sc op num L bj i) := by
  have ci : (nI i).toNatClampNeg = i := nI_clamp (by omega)
  have vi : vp_in (nI i) 100 := vp_in_nI (by omega) (by decide)
  obtain ⟨eo, en⟩ := hE i hi
  have nx0 : ¬ nI i + 1 < 0 := by rw [nI_1]; exact nI_pos (by omega)
  have nxt : ∀ s, OX10_comesTo (nI i + 1) this s ∧ ∃ s', FX10_comesTo (nI i + 1) this s = (0, s') ∧ XS L s s' (fun j => j = i + 1) := by
    intro s
    obtain ⟨a1, s', a2, a3⟩ := p_comesTo (com := s) hL h33 nx0
    refine ⟨a1, s', a2, XS_c a3 (fun j hj => ?_)⟩
    rw [nI_1]
    exact ⟨fun e => by rw [e], fun e => ((nI_eq (by omega) (by omega)).mp e).symm⟩
  have none : (op i = 19 ∨ op i = 29 ∨ op i = 38) → ¬ op i = 7 → ¬ op i = 8 → XS L com com (sc op num L bj i) := fun q n7 n8 => XS_r (fun j hj z => by
    rcases z.2 with y | y
    · rcases y.1 with y | y
      · exact absurd y n8
      · exact absurd y.1 n7
    · rcases q with q | q | q
      · exact absurd q y.1.2.1
      · exact absurd q y.1.2.2.1
      · exact absurd q y.1.2.2.2)
  unfold OX10_leaves_ FX10_leaves_
  rw [ci, eo]
  by_cases c19 : op i = 19
  · rw [if_pos c19]
    exact ⟨⟨vi, fun _ => trivial, fun z => absurd c19 z⟩, com, rfl, none (Or.inl c19) (by rw [c19]; decide) (by rw [c19]; decide)⟩
  · rw [if_neg c19]
    by_cases c29 : op i = 29
    · rw [if_pos c29]
      exact ⟨⟨vi, fun z => absurd z c19, fun _ => ⟨vi, fun _ => trivial, fun z => absurd c29 z⟩⟩, com, rfl, none (Or.inr (Or.inl c29)) (by rw [c29]; decide) (by rw [c29]; decide)⟩
    · rw [if_neg c29]
      by_cases c38 : op i = 38
      · rw [if_pos c38]
        exact ⟨⟨vi, fun z => absurd z c19, fun _ => ⟨vi, fun z => absurd z c29, fun _ => ⟨vi, fun _ => trivial, fun z => absurd c38 z⟩⟩⟩, com, rfl, none (Or.inr (Or.inr c38)) (by rw [c38]; decide) (by rw [c38]; decide)⟩
      · rw [if_neg c38]
        by_cases c7 : op i = 7
        · rw [if_pos c7]
          by_cases cw : wj = 0
          · have cb := hb.mp cw
            obtain ⟨a1, s1, a2, a3⟩ := p_comesTo (com := com) hL h33 (hJ i hi (Or.inl c7))
            rw [if_pos cw]
            unfold OX10_leaves__b2 FX10_leaves__b2
            rw [ci, eo, en, if_pos c7, a2]
            dsimp only
            rw [if_pos c7]
            refine ⟨⟨vi, fun z => absurd z c19, fun _ => ⟨vi, fun z => absurd z c29, fun _ => ⟨vi, fun z => absurd z c38, fun _ => ⟨vi, fun _ => ⟨fun _ => ⟨vi, fun _ => ⟨vi, a1, vi, fun _ => trivial, fun z => absurd c7 z⟩, fun z => absurd c7 z⟩, fun z => absurd cw z⟩, fun z => absurd c7 z⟩⟩⟩⟩, s1, rfl, XS_c a3 (fun j hj => ?_)⟩
            unfold sc
            constructor
            · intro z
              rcases z.2 with y | y
              · exact y.2
              · exact absurd c7 y.1.1
            · intro z
              exact ⟨hj, Or.inl ⟨Or.inr ⟨c7, cb⟩, z⟩⟩
          · have cb : bj = 0 := Classical.byContradiction fun q => cw (hb.mpr q)
            rw [if_neg cw]
            exact ⟨⟨vi, fun z => absurd z c19, fun _ => ⟨vi, fun z => absurd z c29, fun _ => ⟨vi, fun z => absurd z c38, fun _ => ⟨vi, fun _ => ⟨fun z => absurd z cw, fun _ => trivial⟩, fun z => absurd c7 z⟩⟩⟩⟩, com, rfl, XS_r (fun j hj z => by
              rcases z.2 with y | y
              · rcases y.1 with y | y
                · rw [c7] at y
                  exact absurd y (by decide)
                · exact absurd cb y.2
              · exact absurd c7 y.1.1)⟩
        · rw [if_neg c7]
          unfold OX10_leaves__b2 FX10_leaves__b2
          rw [ci, eo, en, if_neg c7]
          by_cases c8 : op i = 8
          · obtain ⟨a1, s1, a2, a3⟩ := p_comesTo (com := com) hL h33 (hJ i hi (Or.inr c8))
            obtain ⟨b1, s2, b2, b3⟩ := nxt s1
            rw [if_pos c8, a2]
            dsimp only
            rw [if_neg c7, b2]
            refine ⟨⟨vi, fun z => absurd z c19, fun _ => ⟨vi, fun z => absurd z c29, fun _ => ⟨vi, fun z => absurd z c38, fun _ => ⟨vi, fun z => absurd z c7, fun _ => ⟨vi, fun z => absurd z c7, fun _ => ⟨vi, fun _ => ⟨vi, a1, vi, fun z => absurd z c7, fun _ => b1⟩, fun z => absurd c8 z⟩⟩⟩⟩⟩⟩, s2, rfl, XS_t a3 b3 (fun j hj => ?_)⟩
            unfold sc
            constructor
            · intro z
              rcases z.2 with y | y
              · exact Or.inl y.2
              · exact Or.inr y.2
            · intro z
              rcases z with y | y
              · exact ⟨hj, Or.inl ⟨Or.inl c8, y⟩⟩
              · exact ⟨hj, Or.inr ⟨⟨c7, c19, c29, c38⟩, y⟩⟩
          · obtain ⟨b1, s2, b2, b3⟩ := nxt com
            rw [if_neg c8, if_neg c7, b2]
            refine ⟨⟨vi, fun z => absurd z c19, fun _ => ⟨vi, fun z => absurd z c29, fun _ => ⟨vi, fun z => absurd z c38, fun _ => ⟨vi, fun z => absurd z c7, fun _ => ⟨vi, fun z => absurd z c7, fun _ => ⟨vi, fun z => absurd z c8, fun _ => ⟨vi, fun z => absurd z c7, fun _ => b1⟩⟩⟩⟩⟩⟩⟩, s2, rfl, XS_c b3 (fun j hj => ?_)⟩
            unfold sc
            constructor
            · intro z
              rcases z.2 with y | y
              · rcases y.1 with y | y
                · exact absurd y c8
                · exact absurd y.1 c7
              · exact y.2
            · intro z
              exact ⟨hj, Or.inr ⟨⟨c7, c19, c29, c38⟩, z⟩⟩
/-- one round -/
theorem l_round {wj bj y2 : Int32} (hL : L ≤ 100) (h33 : this 33 = nI L) (hE : ∀ k, k < L → fop k = op k ∧ farg k = num k) (hJ : JN0 op num L) (hb : wj = 0 ↔ ¬ bj = 0) : ∀ (m i fuel : Nat) (s : mF), i + m = L → m < fuel → OX10_spreads_b2 fuel wj y2 (nI i) this fop farg s ∧ ∃ t, FX10_spreads_b2 fuel wj y2 (nI i) this fop farg s = t ∧ (∀ j, j < L → ¬ s j = 0 → ¬ t j = 0) ∧ (∀ P : Nat → Prop, (∀ i, i < L → ¬ s i = 0 → P i) → (∀ i j, i < L → P i → sc op num L bj i j → P j) → ∀ j, j < L → ¬ t j = 0 → P j) ∧ (∀ a b, i ≤ a → a < L → ¬ s a = 0 → sc op num L bj a b → ¬ t b = 0) ∧ ((∀ j, j < L → s j = 0 ∨ s j = 1) → ∀ j, j < L → t j = 0 ∨ t j = 1)
  | _, _, 0, _, _, h => absurd h (Nat.not_lt_zero _)
  | 0, i, fuel + 1, s, h, _ => by
    have c : this 33 ≤ nI i := by
      rw [h33]
      exact nI_le (by omega) (by omega)
    rw [OX10_spreads_b2, FX10_spreads_b2, if_pos c]
    exact ⟨⟨fun _ => trivial, fun z => absurd c z⟩, s, rfl, fun _ _ q => q, fun P a _ j hj q => a j hj q, fun a b h1 h2 => by omega, fun q => q⟩
  | m + 1, i, fuel + 1, s, h, hf => by
    have c : ¬ this 33 ≤ nI i := by
      rw [h33]
      exact nI_ge (by omega) (by omega)
    have ci : (nI i).toNatClampNeg = i := nI_clamp (by omega)
    have vi : vp_in (nI i) 101 := vp_in_nI (by omega) (by decide)
    have hi : i < L := by omega
    have IH := fun s1 : mF => l_round (y2 := y2) hL h33 hE hJ hb m (i + 1) fuel s1 (by omega) (by omega)
    by_cases cs : s i = 0
    · obtain ⟨i1, t, i2, i3, i4, i5, i6⟩ := IH s
      rw [OX10_spreads_b2, FX10_spreads_b2, if_neg c, ci, nI_1, if_pos cs]
      refine ⟨⟨fun z => absurd z c, fun _ => ⟨vi, fun _ => i1, fun z => absurd cs z⟩⟩, t, i2, i3, i4, fun a b h1 h2 h3 h4 => ?_, i6⟩
      have ne : a ≠ i := fun q => h3 (by rw [q]; exact cs)
      exact i5 a b (by omega) h2 h3 h4
    · obtain ⟨g1, s1, g2, g3⟩ := p_leaves (com := s) hL h33 hE hJ hb hi
      obtain ⟨i1, t, i2, i3, i4, i5, i6⟩ := IH s1
      rw [OX10_spreads_b2, FX10_spreads_b2, if_neg c, ci, nI_1, if_neg cs, g2]
      refine ⟨⟨fun z => absurd z c, fun _ => ⟨vi, fun z => absurd z cs, fun _ => ⟨g1, i1⟩⟩⟩, t, i2, fun j hj q => i3 j hj ((g3.1 j hj).mpr (Or.inl q)), fun P a1 a2 j hj q => i4 P (fun a ha y => ?_) a2 j hj q, fun a b h1 h2 h3 h4 => ?_, fun q => i6 (g3.2 q)⟩
      · rcases (g3.1 a ha).mp y with y | y
        · exact a1 a ha y
        · exact a2 i a hi (a1 i hi cs) y
      · by_cases e : a = i
        · subst e
          exact i3 b h4.1 ((g3.1 b h4.1).mpr (Or.inr h4))
        · exact i5 a b (by omega) h2 ((g3.1 a h2).mpr (Or.inl h3)) h4
theorem l_count {y1 y2 : Int32} (hL : L ≤ 100) (h33 : this 33 = nI L) : ∀ (m i fuel : Nat), i + m = L → m < fuel → OX10_spreads_b5 fuel y1 y2 (nI (cnt com i)) (nI i) this com ∧ FX10_spreads_b5 fuel y1 y2 (nI (cnt com i)) (nI i) this com = nI (cnt com L)
  | _, _, 0, _, h => absurd h (Nat.not_lt_zero _)
  | 0, i, fuel + 1, h, _ => by
    have c : this 33 ≤ nI i := by
      rw [h33]
      exact nI_le (by omega) (by omega)
    rw [OX10_spreads_b5, FX10_spreads_b5, if_pos c, show i = L by omega]
    exact ⟨⟨fun _ => trivial, fun z => absurd (by rw [show i = L by omega] at c; exact c) z⟩, rfl⟩
  | m + 1, i, fuel + 1, h, hf => by
    have c : ¬ this 33 ≤ nI i := by
      rw [h33]
      exact nI_ge (by omega) (by omega)
    have ci : (nI i).toNatClampNeg = i := nI_clamp (by omega)
    have vi : vp_in (nI i) 101 := vp_in_nI (by omega) (by decide)
    obtain ⟨i1, i2⟩ := l_count (y1 := y1) (y2 := y2) hL h33 m (i + 1) fuel (by omega) (by omega)
    rw [OX10_spreads_b5, FX10_spreads_b5, if_neg c, ci, nI_1, nI_1]
    by_cases cs : com i = 0
    · have ec : cnt com (i + 1) = cnt com i := by
        show cnt com i + (if com i = 0 then 0 else 1) = cnt com i
        rw [if_pos cs]
        exact Nat.add_zero _
      rw [ec] at i1 i2
      rw [if_pos cs]
      exact ⟨⟨fun z => absurd z c, fun _ => ⟨vi, fun _ => i1, fun z => absurd cs z⟩⟩, i2⟩
    · have ec : cnt com (i + 1) = cnt com i + 1 := by
        show cnt com i + (if com i = 0 then 0 else 1) = cnt com i + 1
        rw [if_neg cs]
      rw [ec] at i1 i2
      rw [if_neg cs]
      exact ⟨⟨fun z => absurd z c, fun _ => ⟨vi, fun z => absurd z cs, fun _ => i1⟩⟩, i2⟩
def bin (L : Nat) (s : mF) : Prop := ∀ j, j < L → s j = 0 ∨ s j = 1
theorem l_spread {wj bj : Int32} (hL : L ≤ 100) (h33 : this 33 = nI L) (hE : ∀ k, k < L → fop k = op k ∧ farg k = num k) (hJ : JN0 op num L) (hb : wj = 0 ↔ ¬ bj = 0) : ∀ (m fuel : Nat) (s : mF) (was : Int32), L ≤ cnt s L + m → m + 2 ≤ fuel → ¬ nI (cnt s L) = was → bin L s → OX10_spreads_b1 fuel wj was (nI (cnt s L)) this fop farg s ∧ ∃ t, FX10_spreads_b1 fuel wj was (nI (cnt s L)) this fop farg s = t ∧ ClS op num L bj s t ∧ bin L t := by
  intro m
  induction m with
  | zero =>
    intro fuel s was h hf hw hbn
    obtain ⟨fuel, rfl⟩ : ∃ k, fuel = k + 2 := ⟨fuel - 2, by omega⟩
    obtain ⟨r1, t, r2, r3, r4, r5, r6⟩ := l_round (y2 := nI (cnt s L)) hL h33 hE hJ hb L 0 10000 s (by omega) (by omega)
    obtain ⟨c1, c2⟩ := l_count (com := t) (y1 := wj) (y2 := nI (cnt s L)) hL h33 L 0 10000 (by omega) (by omega)
    have e0 : nI (cnt t 0) = 0 := nI_0
    rw [nI_0] at r1 r2 c1 c2
    rw [e0] at c1 c2
    have ec : cnt t L = cnt s L := by
      have h1 := cnt_mono (s := s) (t := t) L r3
      have h2 := cnt_le (s := t) L
      omega
    rw [OX10_spreads_b1, FX10_spreads_b1, if_neg hw, r2]
    dsimp only
    rw [c2, ec, OX10_spreads_b1, FX10_spreads_b1, if_pos rfl]
    refine ⟨⟨fun z => absurd z hw, fun _ => ⟨r1, c1, fun _ => trivial, fun z => absurd rfl z⟩⟩, t, rfl, ⟨r3, r4, fun a b ha q sq => r5 a b (Nat.zero_le _) ha (cnt_eq L r3 (by omega) a ha q) sq⟩, r6 hbn⟩
  | succ m ih =>
    intro fuel s was h hf hw hbn
    obtain ⟨fuel, rfl⟩ : ∃ k, fuel = k + 2 := ⟨fuel - 2, by omega⟩
    obtain ⟨r1, t, r2, r3, r4, r5, r6⟩ := l_round (y2 := nI (cnt s L)) hL h33 hE hJ hb L 0 10000 s (by omega) (by omega)
    obtain ⟨c1, c2⟩ := l_count (com := t) (y1 := wj) (y2 := nI (cnt s L)) hL h33 L 0 10000 (by omega) (by omega)
    have e0 : nI (cnt t 0) = 0 := nI_0
    rw [nI_0] at r1 r2 c1 c2
    rw [e0] at c1 c2
    have h1 := cnt_mono (s := s) (t := t) L r3
    have h2 := cnt_le (s := t) L
    rw [OX10_spreads_b1, FX10_spreads_b1, if_neg hw, r2]
    dsimp only
    rw [c2]
    by_cases ec : cnt t L = cnt s L
    · rw [ec, OX10_spreads_b1, FX10_spreads_b1, if_pos rfl]
      exact ⟨⟨fun z => absurd z hw, fun _ => ⟨r1, c1, fun _ => trivial, fun z => absurd rfl z⟩⟩, t, rfl, ⟨r3, r4, fun a b ha q sq => r5 a b (Nat.zero_le _) ha (cnt_eq L r3 (by omega) a ha q) sq⟩, r6 hbn⟩
    · obtain ⟨i1, u, i2, ⟨i3, i4, i5⟩, i6⟩ := ih (fuel + 1) t (nI (cnt s L)) (by omega) (by omega) (fun q => ec ((nI_eq (by omega) (by omega)).mp q)) (r6 hbn)
      exact ⟨⟨fun z => absurd z hw, fun _ => ⟨r1, c1, i1⟩⟩, u, i2, ⟨fun j hj q => i3 j hj (r3 j hj q), fun P a1 a2 j hj q => i4 P (fun a ha y => r4 P a1 a2 a ha y) a2 j hj q, i5⟩, i6⟩
theorem p_spreads {wj bj : Int32} (hL : L ≤ 100) (h33 : this 33 = nI L) (hE : ∀ k, k < L → fop k = op k ∧ farg k = num k) (hJ : JN0 op num L) (hb : wj = 0 ↔ ¬ bj = 0) (hbn : bin L com) : OX10_spreads wj this fop farg com ∧ ∃ t, FX10_spreads wj this fop farg com = (0, t) ∧ ClS op num L bj com t ∧ bin L t := by
  have z01 : ¬ (0 : Int32) = -1 := by decide
  obtain ⟨r1, t, r2, r3, r4, r5, r6⟩ := l_round (y2 := 0) (s := com) hL h33 hE hJ hb L 0 10000 (by omega) (by omega)
  obtain ⟨c1, c2⟩ := l_count (com := t) (y1 := wj) (y2 := 0) hL h33 L 0 10000 (by omega) (by omega)
  have e0 : nI (cnt t 0) = 0 := nI_0
  rw [nI_0] at r1 r2 c1 c2
  rw [e0] at c1 c2
  have h2 := cnt_le (s := t) L
  have key : OX10_spreads_b1 9999 wj 0 (nI (cnt t L)) this fop farg t ∧ ∃ u, FX10_spreads_b1 9999 wj 0 (nI (cnt t L)) this fop farg t = u ∧ ClS op num L bj com u ∧ bin L u := by
    by_cases ec : cnt t L = 0
    · have hz := cnt_0 L ec
      rw [ec, nI_0, OX10_spreads_b1, FX10_spreads_b1, if_pos rfl]
      exact ⟨⟨fun _ => trivial, fun z => absurd rfl z⟩, t, rfl, ⟨r3, r4, fun a b ha q _ => absurd (hz a ha) q⟩, r6 hbn⟩
    · obtain ⟨i1, u, i2, ⟨i3, i4, i5⟩, i6⟩ := l_spread (s := t) hL h33 hE hJ hb L 9999 0 (by omega) (by omega) (nI_ne0 (by omega) (by omega)) (r6 hbn)
      exact ⟨i1, u, i2, ⟨fun j hj q => i3 j hj (r3 j hj q), fun P a1 a2 j hj q => i4 P (fun a ha y => r4 P a1 a2 a ha y) a2 j hj q, i5⟩, i6⟩
  obtain ⟨k1, u, k2, k3, k4⟩ := key
  have e1 : OX10_spreads wj this fop farg com := by
    show OX10_spreads_b1 (9999 + 1) wj (-1) 0 this fop farg com
    rw [OX10_spreads_b1, r2]
    dsimp only
    rw [c2]
    exact ⟨fun z => absurd z z01, fun _ => ⟨r1, c1, k1⟩⟩
  have e2 : FX10_spreads wj this fop farg com = (0, u) := by
    show (0, FX10_spreads_b1 (9999 + 1) wj (-1) 0 this fop farg com) = _
    rw [FX10_spreads_b1, if_neg z01, r2]
    dsimp only
    rw [c2, k2]
  exact ⟨e1, u, e2, k3, k4⟩
theorem l_nowhere (hL : L ≤ 100) (h33 : this 33 = nI L) : ∀ (m i fuel : Nat) (s : mF), i + m = L → m < fuel → OX10_comesNowhere_b1 fuel (nI i) this s ∧ FX10_comesNowhere_b1 fuel (nI i) this s = fun k => if i ≤ k ∧ k < L then 0 else s k
  | _, _, 0, _, _, h => absurd h (Nat.not_lt_zero _)
  | 0, i, fuel + 1, s, h, _ => by
    have c : this 33 ≤ nI i := by
      rw [h33]
      exact nI_le (by omega) (by omega)
    rw [OX10_comesNowhere_b1, FX10_comesNowhere_b1, if_pos c]
    refine ⟨⟨fun _ => trivial, fun z => absurd c z⟩, ?_⟩
    funext k
    rw [if_neg (by omega)]
  | m + 1, i, fuel + 1, s, h, hf => by
    have c : ¬ this 33 ≤ nI i := by
      rw [h33]
      exact nI_ge (by omega) (by omega)
    have ci : (nI i).toNatClampNeg = i := nI_clamp (by omega)
    have vi : vp_in (nI i) 101 := vp_in_nI (by omega) (by decide)
    obtain ⟨i1, i2⟩ := l_nowhere hL h33 m (i + 1) fuel (upd s i 0) (by omega) (by omega)
    rw [OX10_comesNowhere_b1, FX10_comesNowhere_b1, if_neg c, ci, nI_1]
    refine ⟨⟨fun z => absurd z c, fun _ => ⟨vi, i1⟩⟩, i2.trans ?_⟩
    funext k
    simp only [upd_at]
    by_cases q : i + 1 ≤ k ∧ k < L
    · rw [if_pos q, if_pos (show i ≤ k ∧ k < L by omega)]
    · rw [if_neg q]
      by_cases q2 : k = i
      · rw [if_pos q2, if_pos (show i ≤ k ∧ k < L by omega)]
      · rw [if_neg q2, if_neg (show ¬ (i ≤ k ∧ k < L) by omega)]
theorem p_nowhere (hL : L ≤ 100) (h33 : this 33 = nI L) : OX10_comesNowhere this com ∧ ∃ s, FX10_comesNowhere this com = (0, s) ∧ ∀ j, j < L → s j = 0 := by
  obtain ⟨q1, q2⟩ := l_nowhere hL h33 L 0 10000 com (by omega) (by omega)
  rw [nI_0] at q1 q2
  refine ⟨q1, (fun k => if 0 ≤ k ∧ k < L then 0 else com k), ?_, fun j hj => if_pos ⟨Nat.zero_le _, hj⟩⟩
  unfold FX10_comesNowhere
  rw [q2]
end WYR
