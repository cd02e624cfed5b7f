/-! PURE: who waits for a time (GENERATED, wip/gen/p/23.py) -/
theorem mNr_b {x : Int32} (h : x = 0 ∨ x = 1) : mNr 22 x = x := by rcases h with rfl | rfl <;> rfl
theorem m3 {k : Nat} (h : k ≤ 13) : (3 : Int32) * nI k = nI (3 * k) := by
  have e : ∀ k, k ≤ 13 → (3 : Int32) * nI k = nI (3 * k) := by decide +kernel
  exact e k h
theorem m118 {k : Nat} (h : k ≤ 13) : (118 : Int32) + 3 * nI k = nI (118 + 3 * k) := by
  rw [m3 h]
  exact nI_add 118 _
theorem m119 {k : Nat} (h : k ≤ 13) : (118 : Int32) + 3 * nI k + 1 = nI (119 + 3 * k) := by
  rw [m118 h]
  exact (nI_add (118 + 3 * k) 1).trans (congrArg nI (by omega))
theorem m120 {k : Nat} (h : k ≤ 13) : (118 : Int32) + 3 * nI k + 2 = nI (120 + 3 * k) := by
  rw [m118 h]
  exact (nI_add (118 + 3 * k) 2).trans (congrArg nI (by omega))
theorem nI_m1 (k : Nat) : nI (k + 1) + (-1) = nI k := by
  rw [← nI_1]
  have e : (1 : Int32) + (-1) = 0 := by decide
  rw [Int32.add_assoc, e, Int32.add_zero]
theorem tRem {tz : mF} {s' : Nat} (hz : tz 0 = nI s') (hs : s' < 12) : ∀ (m i fuel : Nat) (tp tt tb : mF), i + m = s' → m < fuel → (∀ k, k < 12 → (tb k = 0 ∨ tb k = 1)) → OX6_remove_b3 fuel (nI i) tz tp tt tb ∧ FX6_remove_b3 fuel (nI i) tz tp tt tb = (fun j => if i ≤ j ∧ j < s' then tp (j + 1) else tp j, fun j => if i ≤ j ∧ j < s' then tt (j + 1) else tt j, fun j => if i ≤ j ∧ j < s' then tb (j + 1) else tb j)
  | _, _, 0, _, _, _, _, h, _ => absurd h (Nat.not_lt_zero _)
  | 0, i, fuel + 1, tp, tt, tb, h, _, _ => by
    have c : tz 0 ≤ nI i := by rw [hz]; exact nI_le (by omega) (by omega)
    rw [OX6_remove_b3, FX6_remove_b3, if_pos c]
    refine ⟨⟨fun _ => trivial, fun h => absurd c h⟩, ?_⟩
    have e : ∀ j, ¬ (i ≤ j ∧ j < s') := fun j => by omega
    simp only [e, if_false]
  | m + 1, i, fuel + 1, tp, tt, tb, h, hn, hb => by
    have c : ¬ tz 0 ≤ nI i := by rw [hz]; exact nI_ge (by omega) (by omega)
    have v1 : vp_in (nI i + 1) 12 := by rw [nI_1]; exact vp_in_nI (by omega) (by decide)
    have v2 : vp_in (nI i) 12 := vp_in_nI (by omega) (by decide)
    have hb' : ∀ k, k < 12 → (upd tb i (tb (i + 1)) k = 0 ∨ upd tb i (tb (i + 1)) k = 1) := fun k hk => by
      simp only [upd_at]
      split
      · exact hb _ (by omega)
      · exact hb k hk
    have ih := tRem hz hs m (i + 1) fuel (upd tp i (tp (i + 1))) (upd tt i (tt (i + 1))) (upd tb i (tb (i + 1))) (by omega) (by omega) hb'
    rw [OX6_remove_b3, FX6_remove_b3, if_neg c]
    simp only [nI_1, nI_clamp (show i < 2 ^ 31 by omega), nI_clamp (show i + 1 < 2 ^ 31 by omega), mNr_b (hb (i + 1) (by omega))]
    rw [nI_1] at v1
    refine ⟨⟨fun h => absurd h c, fun _ => ⟨v1, v2, v1, v2, v1, v2, ih.1⟩⟩, ih.2.trans ?_⟩
    have e : ∀ (x : mF), (fun j => if i + 1 ≤ j ∧ j < s' then upd x i (x (i + 1)) (j + 1) else upd x i (x (i + 1)) j) = fun j => if i ≤ j ∧ j < s' then x (j + 1) else x j := by
      intro x
      funext j
      simp only [upd_at]
      by_cases h1 : i + 1 ≤ j ∧ j < s'
      · rw [if_pos h1, if_neg (by omega), if_pos (by omega)]
      · rw [if_neg h1]
        by_cases h2 : j = i
        · rw [if_pos h2, if_pos (by omega), h2]
        · rw [if_neg h2, if_neg (by omega)]
    rw [e tp, e tt, e tb]
section TIM
variable {f n g tz tp tt tb reg mem : mF} {b : Nat} {z : Int32}
theorem gLeaves (H : Hb f b) {s' : Nat} (hs : s' < 12) : ∀ (m i fuel : Nat) (g : mF), i + m = 3 * s' → g 117 = nI s' → m < fuel → OX10_leaves_b1 fuel (nI i) (fb f z) (emb b n g) ∧ FX10_leaves_b1 fuel (nI i) (fb f z) (emb b n g) = emb b n (fun j => if 118 + i ≤ j ∧ j < 118 + 3 * s' then g (j + 3) else g j)
  | _, _, 0, _, _, _, h => absurd h (Nat.not_lt_zero _)
  | 0, i, fuel + 1, g, h, h7, _ => by
    have c : 3 * g 117 ≤ nI i := by rw [h7, m3 (by omega)]; exact nI_le (by omega) (by omega)
    rw [OX10_leaves_b1, FX10_leaves_b1]
    simp only [og117 H, g117 H, c, if_true, not_true_eq_false, false_implies, and_true, implies_true, true_and]
    have e : ∀ j, ¬ (118 + i ≤ j ∧ j < 118 + 3 * s') := fun j => by omega
    simp only [e, if_false]
  | m + 1, i, fuel + 1, g, h, h7, hn => by
    have c : ¬ 3 * g 117 ≤ nI i := by rw [h7, m3 (by omega)]; exact nI_ge (by omega) (by omega)
    have k1 : (118 : Int32) + nI i = nI (118 + i) := nI_add 118 i
    have k2 : nI (118 + i) + 3 = nI (118 + i + 3) := nI_add (118 + i) 3
    have ih := gLeaves H hs m (i + 1) fuel (upd g (118 + i) (g (118 + i + 3))) (by omega) ((pk_un (by omega)).trans h7) (by omega)
    rw [OX10_leaves_b1, FX10_leaves_b1]
    simp only [og117 H, g117 H, c, if_false, k1, k2, oget_e H (show 118 + i + 3 < 174 by omega) rfl, get_e H (show 118 + i + 3 < 174 by omega) rfl, oset_e H (show 118 + i < 174 by omega) rfl, set_e H (show 118 + i < 174 by omega) rfl, nI_1, not_false_eq_true, false_implies, true_implies, true_and, implies_true]
    refine ⟨ih.1, ih.2.trans (congrArg (emb b n) ?_)⟩
    funext j
    simp only [upd_at]
    by_cases h1 : 118 + (i + 1) ≤ j ∧ j < 118 + 3 * s'
    · rw [if_pos h1, if_neg (by omega), if_pos (by omega)]
    · rw [if_neg h1]
      by_cases h2 : j = 118 + i
      · rw [if_pos h2, if_pos (by omega), h2]
      · rw [if_neg h2, if_neg (by omega)]
/-- the k-th leaves -/
theorem p_leave (H : Hb f b) (h : RT tz tp tt tb g) {k s : Nat} (h0 : tz 0 = nI s) (hs : s ≤ 12) (hk : k < s) : OX6_remove (nI k) tz tp tt tb ∧ OX10_leaves (nI k) (fb f z) (emb b n g) ∧ ∃ g', FX10_leaves (nI k) (fb f z) (emb b n g) = (0, emb b n g') ∧ (∀ j, j < 117 ∨ 154 ≤ j → g' j = g j) ∧ RT (FX6_remove (nI k) tz tp tt tb).2.1 (FX6_remove (nI k) tz tp tt tb).2.2.1 (FX6_remove (nI k) tz tp tt tb).2.2.2.1 (FX6_remove (nI k) tz tp tt tb).2.2.2.2 g' ∧ (FX6_remove (nI k) tz tp tt tb).2.1 0 = nI (s - 1) ∧ (∀ j, j < s - 1 → (FX6_remove (nI k) tz tp tt tb).2.2.1 j = if k ≤ j then tp (j + 1) else tp j) := by
  obtain ⟨s2, r1, r2, r3, r4, r5, r6⟩ := h
  have e : s2 = s := by
    have := r2.symm.trans h0
    exact (nI_eq (by omega) (by omega)).mp this
  subst e
  have c0 : ¬ nI k < 0 := nI_pos (by omega)
  have c1 : nI k < tz 0 := by rw [r2]; exact nI_lt hk (by omega)
  have hs1 : tz 0 - 1 = nI (s2 - 1) := by rw [r2]; exact nI_sub (a := s2) (c := 1) (by omega)
  have t1 := tRem (tz := upd tz 0 (tz 0 - 1)) (s' := s2 - 1) (by rw [upd_at, if_pos rfl, hs1]) (by omega) (s2 - 1 - k) k 10000 tp tt tb (by omega) (by omega) r5
  have hg1 : g 117 - 1 = nI (s2 - 1) := by rw [r3]; exact nI_sub (a := s2) (c := 1) (by omega)
  have t2 := gLeaves (n := n) (z := z) H (s' := s2 - 1) (by omega) (3 * (s2 - 1) - 3 * k) (3 * k) 10000 (upd g 117 (g 117 - 1)) (by omega) (by rw [upd_at, if_pos rfl, hg1]) (by omega)
  refine ⟨?_, ?_, fun j => if 118 + 3 * k ≤ j ∧ j < 118 + 3 * (s2 - 1) then upd g 117 (g 117 - 1) (j + 3) else upd g 117 (g 117 - 1) j, ?_, ?_, ?_, ?_, ?_⟩
  rotate_left 2
  · simp only [FX10_leaves, g117 H, s117 H, m3 (show k ≤ 13 by omega), t2.2]
  · intro j hj
    dsimp only
    rw [if_neg (by omega), pk_un (by omega)]
  · simp only [FX6_remove, if_neg c0, if_pos c1, t1.2]
    refine ⟨s2 - 1, by omega, by rw [upd_at, if_pos rfl, hs1], ?_, ?_, ?_, ?_⟩
    · show (if 118 + 3 * k ≤ 117 ∧ 117 < 118 + 3 * (s2 - 1) then _ else _) = _
      rw [if_neg (by omega), upd_at, if_pos rfl, hg1]
    · intro j hj
      by_cases hkj : k ≤ j
      · obtain ⟨a1, a2, a3, a4⟩ := r4 (j + 1) (by omega)
        have q1 : 118 + 3 * k ≤ 118 + 3 * j ∧ 118 + 3 * j < 118 + 3 * (s2 - 1) := by omega
        have q2 : 118 + 3 * k ≤ 119 + 3 * j ∧ 119 + 3 * j < 118 + 3 * (s2 - 1) := by omega
        have q3 : 118 + 3 * k ≤ 120 + 3 * j ∧ 120 + 3 * j < 118 + 3 * (s2 - 1) := by omega
        have q4 : k ≤ j ∧ j < s2 - 1 := ⟨hkj, hj⟩
        dsimp only
        rw [if_pos q1, if_pos q2, if_pos q3, if_pos q4, if_pos q4, if_pos q4, pk_un (by omega), pk_un (by omega), pk_un (by omega)]
        exact ⟨a1, a2, a3, a4⟩
      · obtain ⟨a1, a2, a3, a4⟩ := r4 j (by omega)
        have q1 : ¬ (118 + 3 * k ≤ 118 + 3 * j ∧ 118 + 3 * j < 118 + 3 * (s2 - 1)) := by omega
        have q2 : ¬ (118 + 3 * k ≤ 119 + 3 * j ∧ 119 + 3 * j < 118 + 3 * (s2 - 1)) := by omega
        have q3 : ¬ (118 + 3 * k ≤ 120 + 3 * j ∧ 120 + 3 * j < 118 + 3 * (s2 - 1)) := by omega
        have q4 : ¬ (k ≤ j ∧ j < s2 - 1) := by omega
        dsimp only
        rw [if_neg q1, if_neg q2, if_neg q3, if_neg q4, if_neg q4, if_neg q4, pk_un (by omega), pk_un (by omega), pk_un (by omega)]
        exact ⟨a1, a2, a3, a4⟩
    · intro j hj
      dsimp only
      split
      · exact r5 _ (by omega)
      · exact r5 j hj
    · intro i j hij hj
      dsimp only
      by_cases h1 : k ≤ j
      · rw [if_pos ⟨h1, hj⟩]
        by_cases h2 : k ≤ i
        · rw [if_pos (by omega)]; exact r6 (i + 1) (j + 1) (by omega) (by omega)
        · rw [if_neg (by omega)]; exact r6 i (j + 1) (by omega) (by omega)
      · rw [if_neg (by omega), if_neg (by omega)]; exact r6 i j hij (by omega)
  · simp only [FX6_remove, if_neg c0, if_pos c1, t1.2]
    rw [upd_at, if_pos rfl, hs1]
  · intro j hj
    simp only [FX6_remove, if_neg c0, if_pos c1, t1.2]
    by_cases h1 : k ≤ j
    · rw [if_pos ⟨h1, hj⟩, if_pos h1]
    · rw [if_neg (by omega), if_neg h1]
  · rw [OX6_remove]
    exact ⟨fun h => absurd h c0, fun _ => ⟨fun _ => t1.1, fun h => absurd c1 h⟩⟩
  · simp only [OX10_leaves, og117 H, g117 H, os117 H, s117 H, true_and, m3 (show k ≤ 13 by omega)]
    exact t2.1
end TIM
section PUT
variable {f n g tz tp tt tb reg mem : mF} {b : Nat} {z : Int32}
theorem le_or {x y : Int32} : x ≤ y ∨ y < x := by
  rcases Int32.le_total x y with h | h
  · exact Or.inl h
  · by_cases e : x = y
    · exact Or.inl (by rw [e]; exact Int32.le_refl _)
    · exact Or.inr (Int32.lt_of_le_of_ne h (Ne.symm e))
theorem lt_no {x y : Int32} (h : y < x) : ¬ x ≤ y := fun h2 => Int32.lt_irrefl (Int32.lt_of_lt_of_le h h2)
theorem cPut2 {s : Nat} (hz : tz 0 = nI s) (hs : s ≤ 12) {p t y q : Int32} : ∀ (m i fuel : Nat), i + m = s → m < fuel → OX6_put_b2 fuel p t y q (nI i) tz tp ∧ ∃ j, i ≤ j ∧ j ≤ s ∧ FX6_put_b2 fuel p t y q (nI i) tz tp = nI j ∧ (∀ k, i ≤ k → k < j → ¬ q ≤ tp k &&& 1) ∧ (j < s → q ≤ tp j &&& 1)
  | _, _, 0, _, h => absurd h (Nat.not_lt_zero _)
  | 0, i, fuel + 1, h, _ => by
    have c : tz 0 ≤ nI i := by rw [hz]; exact nI_le (by omega) (by omega)
    rw [OX6_put_b2, FX6_put_b2, if_pos c]
    exact ⟨⟨fun _ => trivial, fun h => absurd c h⟩, i, Nat.le_refl _, by omega, rfl, fun k _ _ => by omega, fun _ => by omega⟩
  | m + 1, i, fuel + 1, h, hn => by
    have c : ¬ tz 0 ≤ nI i := by rw [hz]; exact nI_ge (by omega) (by omega)
    have v : vp_in (nI i) 12 := vp_in_nI (by omega) (by decide)
    rw [OX6_put_b2, FX6_put_b2, if_neg c, nI_clamp (by omega), nI_1]
    by_cases c2 : q ≤ tp i &&& 1
    · rw [if_pos c2]
      exact ⟨⟨fun h => absurd h c, fun _ => ⟨v, fun _ => trivial, fun h => absurd c2 h⟩⟩, i, Nat.le_refl _, by omega, rfl, fun k _ _ => by omega, fun _ => c2⟩
    · rw [if_neg c2]
      obtain ⟨o1, j, j1, j2, j3, j4, j5⟩ := cPut2 hz hs (p := p) (t := t) (y := y) (q := q) m (i + 1) fuel (by omega) (by omega)
      exact ⟨⟨fun h => absurd h c, fun _ => ⟨v, fun h => absurd h c2, fun _ => o1⟩⟩, j, by omega, j2, j3, fun k k1 k2 => by
        by_cases e : k = i
        · rw [e]; exact c2
        · exact j4 k (by omega) k2, j5⟩
theorem after0 {x y : Int32} (h : x - y ≤ 0) : FX9_isAfter x y = 0 := if_pos h
theorem after1 {x y : Int32} (h : ¬ x - y ≤ 0) : FX9_isAfter x y = 1 := if_neg h
theorem cPut3 {s : Nat} (hz : tz 0 = nI s) (hs : s ≤ 12) {p t y q : Int32} : ∀ (m i fuel : Nat), i + m = s → m < fuel → OX6_put_b3 fuel p t y q (nI i) tz tp tt ∧ ∃ j, i ≤ j ∧ j ≤ s ∧ FX6_put_b3 fuel p t y q (nI i) tz tp tt = nI j ∧ (∀ k, i ≤ k → k < j → tp k &&& 1 = q ∧ tt k - t ≤ 0) ∧ (j < s → ¬ (tp j &&& 1 = q ∧ tt j - t ≤ 0))
  | _, _, 0, _, h => absurd h (Nat.not_lt_zero _)
  | 0, i, fuel + 1, h, _ => by
    have c : tz 0 ≤ nI i := by rw [hz]; exact nI_le (by omega) (by omega)
    rw [OX6_put_b3, FX6_put_b3, if_pos c]
    exact ⟨⟨fun _ => trivial, fun h => absurd c h⟩, i, Nat.le_refl _, by omega, rfl, fun k _ _ => by omega, fun _ => by omega⟩
  | m + 1, i, fuel + 1, h, hn => by
    have c : ¬ tz 0 ≤ nI i := by rw [hz]; exact nI_ge (by omega) (by omega)
    have v : vp_in (nI i) 12 := vp_in_nI (by omega) (by decide)
    rw [OX6_put_b3, FX6_put_b3, if_neg c, nI_clamp (by omega), nI_1]
    by_cases c2 : tp i &&& 1 = q
    · rw [if_pos c2]
      by_cases c3 : tt i - t ≤ 0
      · obtain ⟨o1, j, j1, j2, j3, j4, j5⟩ := cPut3 hz hs (p := p) (t := t) (y := y) (q := q) m (i + 1) fuel (by omega) (by omega)
        simp only [after0 c3, if_true]
        exact ⟨⟨fun h => absurd h c, fun _ => ⟨v, fun _ => ⟨v, fun _ => o1, fun h => absurd trivial h⟩, fun h => absurd c2 h⟩⟩, j, by omega, j2, j3, fun k k1 k2 => by
          by_cases e : k = i
          · rw [e]; exact ⟨c2, c3⟩
          · exact j4 k (by omega) k2, j5⟩
      · simp only [after1 c3, if_neg one0]
        exact ⟨⟨fun h => absurd h c, fun _ => ⟨v, fun _ => ⟨v, fun h => absurd h one0, fun _ => trivial⟩, fun h => absurd c2 h⟩⟩, i, Nat.le_refl _, by omega, rfl, fun k _ _ => by omega, fun _ h => c3 h.2⟩
    · rw [if_neg c2]
      exact ⟨⟨fun h => absurd h c, fun _ => ⟨v, fun h => absurd h c2, fun _ => trivial⟩⟩, i, Nat.le_refl _, by omega, rfl, fun k _ _ => by omega, fun _ h => c2 h.1⟩
theorem gPut4 (H : Hb f b) {s : Nat} (hs : s ≤ 12) (h7 : g 117 = nI s) (hr : ∀ k, k < s → g (118 + 3 * k) = tp k ∧ g (119 + 3 * k) = tt k) {p t y : Int32} : ∀ (m i fuel : Nat), i + m = s → m < fuel → OX10_waitsTill_b4 fuel p t y (nI i) (fb f z) (emb b n g) ∧ ∃ j, i ≤ j ∧ j ≤ s ∧ FX10_waitsTill_b4 fuel p t y (nI i) (fb f z) (emb b n g) = nI j ∧ (∀ k, i ≤ k → k < j → (tp k &&& 1 < p &&& 1 ∨ (tp k &&& 1 = p &&& 1 ∧ tt k - t ≤ 0))) ∧ (j < s → ¬ (tp j &&& 1 < p &&& 1 ∨ (tp j &&& 1 = p &&& 1 ∧ tt j - t ≤ 0)))
  | _, _, 0, _, h => absurd h (Nat.not_lt_zero _)
  | 0, i, fuel + 1, h, _ => by
    have c : g 117 ≤ nI i := by rw [h7]; exact nI_le (by omega) (by omega)
    rw [OX10_waitsTill_b4, FX10_waitsTill_b4]
    simp only [og117 H, g117 H, c, if_true, not_true_eq_false, false_implies, implies_true, true_and]
    exact ⟨i, Nat.le_refl _, by omega, rfl, fun k _ _ => by omega, fun _ => by omega⟩
  | m + 1, i, fuel + 1, h, hn => by
    have c : ¬ g 117 ≤ nI i := by rw [h7]; exact nI_ge (by omega) (by omega)
    obtain ⟨r1, r2⟩ := hr i (by omega)
    obtain ⟨o1, j, j1, j2, j3, j4, j5⟩ := gPut4 H hs h7 hr (p := p) (t := t) (y := y) m (i + 1) fuel (by omega) (by omega)
    rw [OX10_waitsTill_b4, FX10_waitsTill_b4]
    simp only [og117 H, g117 H, c, if_false, oget_e H (show 118 + 3 * i < 174 by omega) (m118 (by omega)), get_e H (show 118 + 3 * i < 174 by omega) (m118 (by omega)), oget_e H (show 119 + 3 * i < 174 by omega) (m119 (by omega)), get_e H (show 119 + 3 * i < 174 by omega) (m119 (by omega)), r1, r2, nI_1, not_false_eq_true, false_implies, true_implies, true_and]
    have step : ∀ (hsk : tp i &&& 1 < p &&& 1 ∨ (tp i &&& 1 = p &&& 1 ∧ tt i - t ≤ 0)), ∃ j, i ≤ j ∧ j ≤ s ∧ FX10_waitsTill_b4 fuel p t y (nI (i + 1)) (fb f z) (emb b n g) = nI j ∧ (∀ k, i ≤ k → k < j → (tp k &&& 1 < p &&& 1 ∨ (tp k &&& 1 = p &&& 1 ∧ tt k - t ≤ 0))) ∧ (j < s → ¬ (tp j &&& 1 < p &&& 1 ∨ (tp j &&& 1 = p &&& 1 ∧ tt j - t ≤ 0))) := fun hsk => ⟨j, by omega, j2, j3, fun k k1 k2 => by
      by_cases e : k = i
      · rw [e]; exact hsk
      · exact j4 k (by omega) k2, j5⟩
    refine ⟨⟨fun _ => o1, fun _ => ⟨fun _ => ⟨fun _ => trivial, fun _ => o1⟩, fun _ => trivial⟩⟩, ?_⟩
    by_cases c1 : tp i &&& 1 < p &&& 1
    · rw [if_pos c1]; exact step (Or.inl c1)
    · rw [if_neg c1]
      by_cases c2 : tp i &&& 1 = p &&& 1
      · rw [if_pos c2]
        by_cases c3 : 0 < tt i - t
        · rw [if_pos c3]
          exact ⟨i, Nat.le_refl _, by omega, rfl, fun k _ _ => by omega, fun _ h => by
            rcases h with h | h
            · exact c1 h
            · exact lt_no c3 h.2⟩
        · rw [if_neg c3]
          have c4 : tt i - t ≤ 0 := by rcases le_or (x := tt i - t) (y := 0) with h | h; exact h; exact absurd h c3
          exact step (Or.inr ⟨c2, c4⟩)
      · rw [if_neg c2]
        exact ⟨i, Nat.le_refl _, by omega, rfl, fun k _ _ => by omega, fun _ h => by
          rcases h with h | h
          · exact c1 h
          · exact c2 h.1⟩
theorem cPut5 {P : Nat} {p t y : Int32} : ∀ (m fuel : Nat) (tp tt tb : mF), P + m ≤ 11 → m < fuel → (∀ k, k < 12 → (tb k = 0 ∨ tb k = 1)) → OX6_put_b5 fuel p t y (nI P) (nI (P + m)) tp tt tb ∧ FX6_put_b5 fuel p t y (nI P) (nI (P + m)) tp tt tb = (fun j => if P < j ∧ j ≤ P + m then tp (j - 1) else tp j, fun j => if P < j ∧ j ≤ P + m then tt (j - 1) else tt j, fun j => if P < j ∧ j ≤ P + m then tb (j - 1) else tb j)
  | _, 0, _, _, _, _, h, _ => absurd h (Nat.not_lt_zero _)
  | 0, fuel + 1, tp, tt, tb, h, _, _ => by
    have c : nI (P + 0) ≤ nI P := nI_le (by omega) (by omega)
    rw [OX6_put_b5, FX6_put_b5, if_pos c]
    refine ⟨⟨fun _ => trivial, fun h => absurd c h⟩, ?_⟩
    have e : ∀ j, ¬ (P < j ∧ j ≤ P + 0) := fun j => by omega
    simp only [e, if_false]
  | m + 1, fuel + 1, tp, tt, tb, h, hn, hb => by
    have c : ¬ nI (P + (m + 1)) ≤ nI P := nI_ge (by omega) (by omega)
    have e1 : nI (P + (m + 1)) - 1 = nI (P + m) := nI_pred (P + m)
    have e2 : nI (P + (m + 1)) + (-1) = nI (P + m) := nI_m1 (P + m)
    have v1 : vp_in (nI (P + m)) 12 := vp_in_nI (by omega) (by decide)
    have v2 : vp_in (nI (P + (m + 1))) 12 := vp_in_nI (by omega) (by decide)
    have hb' : ∀ k, k < 12 → (upd tb (P + (m + 1)) (tb (P + m)) k = 0 ∨ upd tb (P + (m + 1)) (tb (P + m)) k = 1) := fun k hk => by
      simp only [upd_at]
      split
      · exact hb _ (by omega)
      · exact hb k hk
    have ih := cPut5 (P := P) (p := p) (t := t) (y := y) m fuel (upd tp (P + (m + 1)) (tp (P + m))) (upd tt (P + (m + 1)) (tt (P + m))) (upd tb (P + (m + 1)) (tb (P + m))) (by omega) (by omega) hb'
    rw [OX6_put_b5, FX6_put_b5, if_neg c]
    simp only [e1, e2, nI_clamp (show P + m < 2 ^ 31 by omega), nI_clamp (show P + (m + 1) < 2 ^ 31 by omega), mNr_b (hb (P + m) (by omega))]
    refine ⟨⟨fun h => absurd h c, fun _ => ⟨v1, v2, v1, v2, v1, v2, ih.1⟩⟩, ih.2.trans ?_⟩
    have e : ∀ (x : mF), (fun j => if P < j ∧ j ≤ P + m then upd x (P + (m + 1)) (x (P + m)) (j - 1) else upd x (P + (m + 1)) (x (P + m)) j) = fun j => if P < j ∧ j ≤ P + (m + 1) then x (j - 1) else x j := by
      intro x
      funext j
      simp only [upd_at]
      by_cases h1 : P < j ∧ j ≤ P + m
      · rw [if_pos h1, if_neg (by omega), if_pos (by omega)]
      · rw [if_neg h1]
        by_cases h2 : j = P + (m + 1)
        · rw [if_pos h2, if_pos (by omega), show j - 1 = P + m by omega]
        · rw [if_neg h2, if_neg (by omega)]
    rw [e tp, e tt, e tb]
theorem gPut7 (H : Hb f b) {P : Nat} (hP : P ≤ 12) {p t y : Int32} : ∀ (m fuel : Nat) (g : mF), 3 * P + m ≤ 33 → m < fuel → OX10_waitsTill_b7 fuel p t y (nI P) (nI (3 * P + m) - 1) (fb f z) (emb b n g) ∧ FX10_waitsTill_b7 fuel p t y (nI P) (nI (3 * P + m) - 1) (fb f z) (emb b n g) = emb b n (fun j => if 121 + 3 * P ≤ j ∧ j < 121 + 3 * P + m then g (j - 3) else g j)
  | _, 0, _, _, h => absurd h (Nat.not_lt_zero _)
  | 0, fuel + 1, g, h, _ => by
    have c : nI (3 * P + 0) - 1 < 3 * nI P := by
      rw [m3 (by omega)]
      rcases Nat.eq_zero_or_pos P with e | e
      · subst e; decide
      · rw [show nI (3 * P + 0) - 1 = nI (3 * P - 1) from nI_sub (a := 3 * P) (c := 1) (by omega)]; exact nI_lt (by omega) (by omega)
    rw [OX10_waitsTill_b7, FX10_waitsTill_b7, if_pos c]
    refine ⟨⟨fun _ => trivial, fun h => absurd c h⟩, congrArg (emb b n) ?_⟩
    funext j
    rw [if_neg (by omega)]
  | m + 1, fuel + 1, g, h, hn => by
    have e1 : nI (3 * P + (m + 1)) - 1 = nI (3 * P + m) := nI_pred (3 * P + m)
    have c : ¬ nI (3 * P + m) < 3 * nI P := by rw [m3 (by omega)]; exact nI_nlt (by omega) (by omega)
    have e2 : nI (3 * P + m) + (-1) = nI (3 * P + m) - 1 := by rw [Int32.sub_eq_add_neg]
    have k1 : (118 : Int32) + nI (3 * P + m) = nI (118 + (3 * P + m)) := nI_add 118 _
    have k2 : nI (118 + (3 * P + m)) + 3 = nI (121 + (3 * P + m)) := (nI_add _ 3).trans (congrArg nI (by omega))
    have ih := gPut7 H hP (p := p) (t := t) (y := y) m fuel (upd g (121 + (3 * P + m)) (g (118 + (3 * P + m)))) (by omega) (by omega)
    rw [e1, OX10_waitsTill_b7, FX10_waitsTill_b7, if_neg c]
    simp only [k1, k2, e2, oget_e H (show 118 + (3 * P + m) < 174 by omega) rfl, get_e H (show 118 + (3 * P + m) < 174 by omega) rfl, oset_e H (show 121 + (3 * P + m) < 174 by omega) rfl, set_e H (show 121 + (3 * P + m) < 174 by omega) rfl, true_and]
    refine ⟨⟨fun _ => trivial, fun _ => ih.1⟩, ih.2.trans (congrArg (emb b n) ?_)⟩
    funext j
    simp only [upd_at]
    by_cases h1 : 121 + 3 * P ≤ j ∧ j < 121 + 3 * P + m
    · rw [if_pos h1, if_neg (by omega), if_pos (by omega)]
    · rw [if_neg h1]
      by_cases h2 : j = 121 + (3 * P + m)
      · rw [if_pos h2, if_pos (by omega), show j - 3 = 118 + (3 * P + m) by omega]
      · rw [if_neg h2, if_neg (by omega)]
/-- where one comes in: the same place -/
theorem put_place {s : Nat} {q : Int32} {t : Int32} {j1 j2 j3 : Nat} (hq : q = 0 ∨ q = 1) (hp : ∀ k, k < s → (tp k &&& 1 = 0 ∨ tp k &&& 1 = 1)) (hsrt : ∀ i j, i < j → j < s → tp j &&& 1 = 0 → tp i &&& 1 = 0) (a1 : j1 ≤ s) (a2 : ∀ k, 0 ≤ k → k < j1 → ¬ q ≤ tp k &&& 1) (a3 : j1 < s → q ≤ tp j1 &&& 1) (b0 : j1 ≤ j2) (b1 : j2 ≤ s) (b2 : ∀ k, j1 ≤ k → k < j2 → tp k &&& 1 = q ∧ tt k - t ≤ 0) (b3 : j2 < s → ¬ (tp j2 &&& 1 = q ∧ tt j2 - t ≤ 0)) (c1 : j3 ≤ s) (c2 : ∀ k, 0 ≤ k → k < j3 → (tp k &&& 1 < q ∨ (tp k &&& 1 = q ∧ tt k - t ≤ 0))) (c3 : j3 < s → ¬ (tp j3 &&& 1 < q ∨ (tp j3 &&& 1 = q ∧ tt j3 - t ≤ 0))) : j3 = j2 := by
  rcases Nat.lt_trichotomy j3 j2 with h | h | h
  · refine absurd ?_ (c3 (by omega))
    by_cases h1 : j3 < j1
    · rcases le_or (x := q) (y := tp j3 &&& 1) with h2 | h2
      · exact absurd h2 (a2 j3 (Nat.zero_le _) h1)
      · exact Or.inl h2
    · exact Or.inr (b2 j3 (by omega) h)
  · exact h
  · have hj2 : j2 < s := by omega
    rcases c2 j2 (Nat.zero_le _) h with h1 | h1
    · have hq1 : q = 1 ∧ tp j2 &&& 1 = 0 := by
        rcases hq with e | e <;> rcases hp j2 hj2 with e2 | e2 <;> rw [e, e2] at h1
        · exact absurd h1 (by decide)
        · exact absurd h1 (by decide)
        · exact ⟨e, e2⟩
        · exact absurd h1 (by decide)
      have hj1 : q ≤ tp j1 &&& 1 := a3 (by omega)
      rcases Nat.lt_or_ge j1 j2 with h3 | h3
      · have := hsrt j1 j2 h3 hj2 hq1.2
        rw [this, hq1.1] at hj1
        exact absurd hj1 (by decide)
      · have e : j1 = j2 := by omega
        rw [e, hq1.2, hq1.1] at hj1
        exact absurd hj1 (by decide)
    · exact absurd h1 (b3 hj2)
theorem p_put (H : Hb f b) (h : RT tz tp tt tb g) {s : Nat} (h0 : tz 0 = nI s) (hs : s < 12) {p t a : Int32} (hp : isP p) (ha : a = 0 ∨ a = 1) : OX6_put p t a tz tp tt tb ∧ OX10_waitsTill p t a (fb f 0) (emb b n g) ∧ ∃ g', FX10_waitsTill p t a (fb f 0) (emb b n g) = (0, fb f 0, emb b n g') ∧ (∀ j, j < 117 ∨ 154 ≤ j → g' j = g j) ∧ RT (FX6_put p t a tz tp tt tb).2.1 (FX6_put p t a tz tp tt tb).2.2.1 (FX6_put p t a tz tp tt tb).2.2.2.1 (FX6_put p t a tz tp tt tb).2.2.2.2 g' := by
  obtain ⟨s2, r1, r2, r3, r4, r5, r6⟩ := h
  have e : s2 = s := (nI_eq (by omega) (by omega)).mp (r2.symm.trans h0)
  subst e
  have c0 : tz 0 < 12 := by rw [r2]; exact nI_lt (a := s2) (b := 12) hs (by decide)
  have c1 : ¬ (12 : Int32) ≤ g 117 := by rw [r3]; exact nI_ge (a := s2) (b := 12) hs (by decide)
  obtain ⟨o1, j1, -, x1, x2, x3, x4⟩ := cPut2 (tp := tp) r2 r1 (p := p) (t := t) (y := a) (q := p &&& 1) s2 0 10000 (Nat.zero_add _) (by omega)
  obtain ⟨o2, j2, y0, y1, y2, y3, y4⟩ := cPut3 (tp := tp) (tt := tt) r2 r1 (p := p) (t := t) (y := a) (q := p &&& 1) (s2 - j1) j1 10000 (by omega) (by omega)
  obtain ⟨o3, j3, -, z1, z2, z3, z4⟩ := gPut4 (n := n) (z := 0) (tp := tp) (tt := tt) H r1 r3 (fun k hk => ⟨(r4 k hk).1, (r4 k hk).2.1⟩) (p := p) (t := t) (y := a) s2 0 10000 (Nat.zero_add _) (by omega)
  have ej : j3 = j2 := put_place (pQ hp) (fun k hk => pQ (r4 k hk).2.2.2) r6 x1 x3 x4 y0 y1 y3 y4 z1 z3 z4
  subst ej
  rw [nI_0] at o1 x2 o3 z2
  have t5 := cPut5 (P := j3) (p := p) (t := t) (y := a) (s2 - j3) 10000 tp tt tb (by omega) (by omega) r5
  rw [show j3 + (s2 - j3) = s2 by omega, ← r2] at t5
  have t7 := gPut7 (n := n) (z := 0) H (P := j3) (by omega) (p := p) (t := t) (y := a) (3 * s2 - 3 * j3) 10000 g (by omega) (by omega)
  rw [show 3 * j3 + (3 * s2 - 3 * j3) = 3 * s2 by omega] at t7
  have v : vp_in (nI j3) 12 := vp_in_nI (by omega) (by decide)
  have k1 := m118 (k := j3) (by omega)
  have k2 : nI (118 + 3 * j3) + 1 = nI (119 + 3 * j3) := (nI_add _ 1).trans (congrArg nI (by omega))
  have k3 : nI (118 + 3 * j3) + 2 = nI (120 + 3 * j3) := (nI_add _ 2).trans (congrArg nI (by omega))
  rw [r3] at c1
  have eG : ∀ (G : mF), G 117 = nI s2 → (upd (upd (upd G (118 + 3 * j3) p) (119 + 3 * j3) t) (120 + 3 * j3) a) 117 = nI s2 := fun G hG => by
    rw [pk_un (by omega), pk_un (by omega), pk_un (by omega), hG]
  refine ⟨?_, ?_, upd (upd (upd (upd (fun j => if 121 + 3 * j3 ≤ j ∧ j < 121 + 3 * j3 + (3 * s2 - 3 * j3) then g (j - 3) else g j) (118 + 3 * j3) p) (119 + 3 * j3) t) (120 + 3 * j3) a) 117 (nI (s2 + 1)), ?_, ?_, ?_⟩
  · simp only [OX6_put, FX6_isFull, if_pos c0, true_implies, not_true_eq_false, false_implies, and_true, x2, y2, t5.1, o1, o2, v, and_self]
  · have h117 : (fun j => if 121 + 3 * j3 ≤ j ∧ j < 121 + 3 * j3 + (3 * s2 - 3 * j3) then g (j - 3) else g j) 117 = nI s2 := by
      dsimp only
      rw [if_neg (by omega), r3]
    simp only [OX10_waitsTill, OX10_waitsTill_b6, og117 H, g117 H, c1, false_implies, not_false_eq_true, true_implies, needs_ok one0, fb_46, true_and, not_true_eq_false, and_true, o3, z2, r3, m3 (show s2 ≤ 13 by omega), t7.1, t7.2, k1, k2, k3, oset_e H (show 118 + 3 * j3 < 174 by omega) rfl, oset_e H (show 119 + 3 * j3 < 174 by omega) rfl, oset_e H (show 120 + 3 * j3 < 174 by omega) rfl, os117 H, implies_true, and_self]
  · have h117 : (fun j => if 121 + 3 * j3 ≤ j ∧ j < 121 + 3 * j3 + (3 * s2 - 3 * j3) then g (j - 3) else g j) 117 = nI s2 := by
      dsimp only
      rw [if_neg (by omega), r3]
    simp only [FX10_waitsTill, FX10_waitsTill_b6, g117 H, c1, if_false, needs_ok one0, fb_46, if_true, z2, r3, m3 (show s2 ≤ 13 by omega), t7.2, k1, k2, k3, set_e H (show 118 + 3 * j3 < 174 by omega) rfl, set_e H (show 119 + 3 * j3 < 174 by omega) rfl, set_e H (show 120 + 3 * j3 < 174 by omega) rfl, s117 H, eG (fun j => if 121 + 3 * j3 ≤ j ∧ j < 121 + 3 * j3 + (3 * s2 - 3 * j3) then g (j - 3) else g j) h117, nI_1]
  · intro j hj
    rw [pk_un (by omega), pk_un (by omega), pk_un (by omega), pk_un (by omega), if_neg (by omega)]
  · simp only [FX6_put, FX6_isFull, if_pos c0, if_true, x2, y2, t5.2, mNr_b ha, nI_clamp (show j3 < 2 ^ 31 by omega)]
    refine ⟨s2 + 1, by omega, by rw [upd_at, if_pos rfl, r2, nI_1], pk_us, ?_, ?_, ?_⟩
    · intro k hk
      rcases Nat.lt_trichotomy k j3 with h1 | h1 | h1
      · obtain ⟨a1, a2, a3, a4⟩ := r4 k (by omega)
        have w1 : ∀ (i : Nat), i < 121 + 3 * k → ¬ (121 + 3 * j3 ≤ i ∧ i < 121 + 3 * j3 + (3 * s2 - 3 * j3)) := fun i hi => by omega
        have w2 : ¬ (j3 < k ∧ k ≤ s2) := by omega
        simp only [upd_at, if_neg (show ¬ k = j3 by omega), if_neg w2]
        refine ⟨?_, ?_, ?_, a4⟩
        · rw [if_neg (by omega), if_neg (by omega), if_neg (by omega), if_neg (by omega), if_neg (w1 _ (by omega))]; exact a1
        · rw [if_neg (by omega), if_neg (by omega), if_neg (by omega), if_neg (by omega), if_neg (w1 _ (by omega))]; exact a2
        · rw [if_neg (by omega), if_neg (by omega), if_neg (by omega), if_neg (by omega), if_neg (w1 _ (by omega))]; exact a3
      · subst h1
        simp only [upd_at, if_true]
        refine ⟨?_, ?_, ?_, hp⟩
        · rw [if_neg (by omega), if_neg (by omega), if_neg (by omega)]
        · rw [if_neg (by omega), if_neg (by omega)]
        · rw [if_neg (by omega)]
      · obtain ⟨a1, a2, a3, a4⟩ := r4 (k - 1) (by omega)
        have w2 : j3 < k ∧ k ≤ s2 := by omega
        simp only [upd_at, if_neg (show ¬ k = j3 by omega), if_pos w2]
        refine ⟨?_, ?_, ?_, a4⟩
        · rw [if_neg (by omega), if_neg (by omega), if_neg (by omega), if_neg (by omega), if_pos (by omega), show 118 + 3 * k - 3 = 118 + 3 * (k - 1) by omega]; exact a1
        · rw [if_neg (by omega), if_neg (by omega), if_neg (by omega), if_neg (by omega), if_pos (by omega), show 119 + 3 * k - 3 = 119 + 3 * (k - 1) by omega]; exact a2
        · rw [if_neg (by omega), if_neg (by omega), if_neg (by omega), if_neg (by omega), if_pos (by omega), show 120 + 3 * k - 3 = 120 + 3 * (k - 1) by omega]; exact a3
    · intro k hk
      simp only [upd_at]
      split
      · exact ha
      · split
        · exact r5 _ (by omega)
        · exact r5 k hk
    · intro i j hij hj
      -- what stands ahead of the place is not above it, what stands behind it not below
      have lo : ∀ k, k < j3 → p &&& 1 = 0 → tp k &&& 1 = 0 := fun k hk hq => by
        rcases z3 k (Nat.zero_le _) hk with h1 | h1
        · rw [hq] at h1
          rcases pQ (r4 k (by omega)).2.2.2 with e | e <;> rw [e] at h1 <;> exact absurd h1 (by decide)
        · rw [h1.1, hq]
      have hi : ∀ k, j3 ≤ k → k < s2 → tp k &&& 1 = 0 → p &&& 1 = 0 := fun k hk hks hq => by
        have hn := z4 (by omega)
        rcases pQ hp with e | e
        · exact e
        · refine absurd (Or.inl ?_) hn
          have e0 : tp j3 &&& 1 = 0 := by
            rcases Nat.lt_or_ge j3 k with h2 | h2
            · exact r6 j3 k h2 hks hq
            · rw [show j3 = k by omega]; exact hq
          rw [e0, e]; decide
      simp only [upd_at]
      by_cases j0 : j = j3
      · rw [if_pos j0, if_neg (by omega), if_neg (by omega)]
        exact lo i (by omega)
      · rw [if_neg j0]
        by_cases i0 : i = j3
        · rw [if_pos i0, if_pos (by omega)]
          exact hi (j - 1) (by omega) (by omega)
        · rw [if_neg i0]
          by_cases j4 : j3 < j ∧ j ≤ s2
          · rw [if_pos j4]
            by_cases i4 : j3 < i ∧ i ≤ s2
            · rw [if_pos i4]; exact r6 (i - 1) (j - 1) (by omega) (by omega)
            · rw [if_neg i4]
              intro hq
              exact lo i (by omega) (hi (j - 1) (by omega) (by omega) hq)
          · rw [if_neg j4, if_neg (by omega)]
            exact r6 i j hij (by omega)
theorem p_putFull (h : RT tz tp tt tb g) (hf : ¬ tz 0 < 12) (H : Hb f b) {p t a : Int32} : OX10_waitsTill p t a (fb f z) (emb b n g) ∧ FX10_waitsTill p t a (fb f z) (emb b n g) = (0, fb f 1, emb b n g) := by
  obtain ⟨s, r1, r2, r3, -⟩ := h
  have e : s = 12 := by
    rcases Nat.lt_or_ge s 12 with h | h
    · exact absurd (by rw [r2]; exact nI_lt (a := s) (b := 12) h (by decide)) hf
    · omega
  subst e
  have c : (12 : Int32) ≤ g 117 := by rw [r3]; decide
  have n1 : ¬ (1 : Int32) = 0 := one0
  constructor
  · simp only [OX10_waitsTill, og117 H, g117 H, c, needs_bad, fb_46, n1, true_implies, false_implies, not_true_eq_false, not_false_eq_true, and_true, true_and, and_self]
  · simp only [FX10_waitsTill, g117 H, if_pos c, needs_bad, fb_46, if_neg n1]
end PUT
