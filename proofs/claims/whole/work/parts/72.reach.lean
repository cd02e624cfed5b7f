/-! PURE: reach and hog on both sides (GENERATED, wip/gen/p/72.py) -/
section RCH
variable {op num fop farg this seen opn prg pick f com hog : mF} {L : Nat}
theorem l_pick {y : Int32} {t pk cm : mF} {g : mF} (hL : L ≤ 100) (h0 : t 0 = nI L) (h33 : g 33 = nI L) (hE : ∀ j, j < L → (pk j = 0 ↔ cm j = 0)) : ∀ (m i fuel fuel' : Nat) (c : Int32), i + m = L → m < fuel → m < fuel' → OX7_pick_b1 fuel y c (nI i) t pk ∧ OX10_kth_isCome_b1 fuel' y c (nI i) g cm ∧ FX10_kth_isCome_b1 fuel' y c (nI i) g cm = FX7_pick_b1 fuel y c (nI i) t pk
  | _, _, 0, _, _, _, h, _ => absurd h (Nat.not_lt_zero _)
  | _, _, _ + 1, 0, _, _, _, h => absurd h (Nat.not_lt_zero _)
  | 0, i, fuel + 1, fuel' + 1, c, h, _, _ => by
    have c1 : t 0 ≤ nI i := by rw [h0]; exact nI_le (by omega) (by omega)
    have c2 : g 33 ≤ nI i := by rw [h33]; exact nI_le (by omega) (by omega)
    rw [OX7_pick_b1, FX7_pick_b1, OX10_kth_isCome_b1, FX10_kth_isCome_b1, if_pos c1, if_pos c2]
    exact ⟨⟨fun _ => trivial, fun z => absurd c1 z⟩, ⟨fun _ => trivial, fun z => absurd c2 z⟩, rfl⟩
  | m + 1, i, fuel + 1, fuel' + 1, c, h, hf, hf' => by
    have c1 : ¬ t 0 ≤ nI i := by rw [h0]; exact nI_ge (by omega) (by omega)
    have c2 : ¬ g 33 ≤ nI i := by rw [h33]; exact nI_ge (by omega) (by omega)
    have ci : (nI i).toNatClampNeg = i := nI_clamp (by omega)
    have vi : vp_in (nI i) 100 := vp_in_nI (by omega) (by decide)
    have vi' : vp_in (nI i) 101 := vp_in_nI (by omega) (by decide)
    have IH := fun c' : Int32 => l_pick (y := y) hL h0 h33 hE m (i + 1) fuel fuel' c' (by omega) (by omega) (by omega)
    obtain ⟨a1, a2, a3⟩ := IH c
    obtain ⟨b1, b2, b3⟩ := IH (c + 1)
    have e := hE i (by omega)
    rw [OX7_pick_b1, FX7_pick_b1, OX10_kth_isCome_b1, FX10_kth_isCome_b1, if_neg c1, if_neg c2, ci, nI_1]
    refine ⟨⟨fun z => absurd z c1, fun _ => ⟨vi, fun _ => a1, fun _ => ⟨fun _ => trivial, fun _ => b1⟩⟩⟩, ⟨fun z => absurd z c2, fun _ => ⟨vi', fun _ => a2, fun _ => ⟨fun _ => trivial, fun _ => b2⟩⟩⟩, ?_⟩
    by_cases p : pk i = 0
    · rw [if_pos p, if_pos (e.mp p)]
      exact a3
    · rw [if_neg p, if_neg (fun z => p (e.mpr z))]
      by_cases q : c = y
      · rw [if_pos q, if_pos q]
      · rw [if_neg q, if_neg q]
        exact b3
theorem l_pickh {y : Int32} {t pk cm : mF} {g : mF} (hL : L ≤ 100) (h0 : t 0 = nI L) (h33 : g 33 = nI L) (hE : ∀ j, j < L → (pk j = 0 ↔ cm j = 0)) : ∀ (m i fuel fuel' : Nat) (c : Int32), i + m = L → m < fuel → m < fuel' → OX7_pick_b1 fuel y c (nI i) t pk ∧ OX10_kth_isHog_b1 fuel' y c (nI i) g cm ∧ FX10_kth_isHog_b1 fuel' y c (nI i) g cm = FX7_pick_b1 fuel y c (nI i) t pk
  | _, _, 0, _, _, _, h, _ => absurd h (Nat.not_lt_zero _)
  | _, _, _ + 1, 0, _, _, _, h => absurd h (Nat.not_lt_zero _)
  | 0, i, fuel + 1, fuel' + 1, c, h, _, _ => by
    have c1 : t 0 ≤ nI i := by rw [h0]; exact nI_le (by omega) (by omega)
    have c2 : g 33 ≤ nI i := by rw [h33]; exact nI_le (by omega) (by omega)
    rw [OX7_pick_b1, FX7_pick_b1, OX10_kth_isHog_b1, FX10_kth_isHog_b1, if_pos c1, if_pos c2]
    exact ⟨⟨fun _ => trivial, fun z => absurd c1 z⟩, ⟨fun _ => trivial, fun z => absurd c2 z⟩, rfl⟩
  | m + 1, i, fuel + 1, fuel' + 1, c, h, hf, hf' => by
    have c1 : ¬ t 0 ≤ nI i := by rw [h0]; exact nI_ge (by omega) (by omega)
    have c2 : ¬ g 33 ≤ nI i := by rw [h33]; exact nI_ge (by omega) (by omega)
    have ci : (nI i).toNatClampNeg = i := nI_clamp (by omega)
    have vi : vp_in (nI i) 100 := vp_in_nI (by omega) (by decide)
    have IH := fun c' : Int32 => l_pickh (y := y) hL h0 h33 hE m (i + 1) fuel fuel' c' (by omega) (by omega) (by omega)
    obtain ⟨a1, a2, a3⟩ := IH c
    obtain ⟨b1, b2, b3⟩ := IH (c + 1)
    have e := hE i (by omega)
    rw [OX7_pick_b1, FX7_pick_b1, OX10_kth_isHog_b1, FX10_kth_isHog_b1, if_neg c1, if_neg c2, ci, nI_1]
    refine ⟨⟨fun z => absurd z c1, fun _ => ⟨vi, fun _ => a1, fun _ => ⟨fun _ => trivial, fun _ => b1⟩⟩⟩, ⟨fun z => absurd z c2, fun _ => ⟨vi, fun _ => a2, fun _ => ⟨fun _ => trivial, fun _ => b2⟩⟩⟩, ?_⟩
    by_cases p : pk i = 0
    · rw [if_pos p, if_pos (e.mp p)]
      exact a3
    · rw [if_neg p, if_neg (fun z => p (e.mpr z))]
      by_cases q : c = y
      · rw [if_pos q, if_pos q]
      · rw [if_neg q, if_neg q]
        exact b3
theorem c_reach {x y : Int32} (hL : L ≤ 100) (hp : prg 1 = nI L) (h33 : f 33 = nI L) (hE : ∀ k, k < L → fop k = op k ∧ farg k = num k) (hJ : JN0 op num L) : OX9_reach x y prg op num this pick seen opn ∧ OX10_reach x y f fop farg com ∧ ∃ (v : Int32) (t' p' s' o' f' c' : mF), FX9_reach x y prg op num this pick seen opn = (v, t', p', s', o') ∧ FX10_reach x y f fop farg com = (v, f', c') ∧ FE f f' := by
  have z10 : ¬ (1 : Int32) = 0 := by decide
  have h330 : upd f 0 0 33 = nI L := (pk_un (by decide)).trans h33
  rcases inPrg (x := x) hL with ⟨a1, a2, a3, k, hk, ek⟩ | ⟨a1, a2⟩
  · have a1 : ¬ FX10_isIn x 0 (f 33 - 1) = 0 := by rw [h33, a1]; exact z10
    have a3 : x < prg 1 := by rw [hp]; exact a3
    -- the class
    obtain ⟨b1, t1, s1, b2, b3, b4⟩ := p_wbegin (this := this) (seen := seen) hL hp
    obtain ⟨c1, t2, s2, p2, c2, c3, c4⟩ := p_see hL (b3 opn) x
    obtain ⟨d1, t3, s3, p3, d2, d3, d4⟩ := l_follow (op := op) (num := num) (bj := 1) hL L 0 10000 t2 s2 p2 (by omega) (by omega) c3 (Nat.zero_le _) (fun k hk => absurd hk (Nat.not_lt_zero k))
    rw [nI_0] at d1 d2
    have d1 : OX7_follow 1 t2 s2 p2 op num := d1
    have d2 : FX7_follow 1 t2 s2 p2 op num = (0, t3, s3, p3) := by
      unfold FX7_follow
      rw [d2]
    have cL : (t3 0).toNatClampNeg = L := by rw [d3.1]; exact nI_clamp (by omega)
    have ofr : OX7_comeFrom x this pick seen opn prg op num := by
      unfold OX7_comeFrom
      rw [b2]
      refine ⟨b1, ?_⟩
      dsimp only
      rw [c2]
      refine ⟨c1, ?_⟩
      dsimp only
      rw [d2]
      refine ⟨d1, ?_⟩
      dsimp only
      rw [cL]
      refine ⟨by rw [d3.1]; exact nI_pos (by omega), by omega, by omega, fun i hi => ?_⟩
      rw [Nat.zero_add]
      rcases d3.2.2.2.2 i hi with e | e <;> rw [e] <;> rfl
    have tfr : FX7_comeFrom x this pick seen opn prg op num = (0, t3, va_cpy s3 pick 0 0 L, s3, p3) := by
      unfold FX7_comeFrom
      rw [b2]
      dsimp only
      rw [c2]
      dsimp only
      rw [d2]
      dsimp only
      rw [cL]
    -- the reference
    obtain ⟨e1, m1, e2, e3⟩ := p_nowhere (this := upd f 0 0) (com := com) hL h330
    obtain ⟨g1, m2, g2, g3⟩ := p_comesTo (this := upd f 0 0) (com := m1) hL h330 a2
    have hbn : bin L m2 := g3.2 (fun j hj => Or.inl (e3 j hj))
    obtain ⟨i1, m3, i2, i3, i4⟩ := p_spreads (this := upd f 0 0) (fop := fop) (farg := farg) (op := op) (num := num) (wj := 0) (bj := 1) hL h330 hE hJ ⟨fun _ => z10, fun _ => rfl⟩ hbn
    have eq0 : ∀ j, j < L → (s2 j = 0 ↔ m2 j = 0) := by
      intro j hj
      have q1 := c4.1 j hj
      have q2 := g3.1 j hj
      have q3 : ¬ s2 j = 0 ↔ ¬ m2 j = 0 := by
        rw [q1, q2, b4 j hj, e3 j hj]
      exact ⟨fun z => Classical.byContradiction fun w => q3.mpr w z, fun z => Classical.byContradiction fun w => q3.mp w z⟩
    have eqf := ClS_u d4 i3 eq0
    have eqp : ∀ j, j < L → (va_cpy s3 pick 0 0 L j = 0 ↔ m3 j = 0) := fun j hj => by
      rw [eqr_cpy j hj]
      exact eqf j hj
    obtain ⟨j1, j2, j3⟩ := l_pick (y := y) (t := t3) (pk := va_cpy s3 pick 0 0 L) (cm := m3) (g := upd f 0 0) hL d3.1 h330 eqp L 0 10000 10000 0 (by omega) (by omega) (by omega)
    rw [nI_0] at j1 j2 j3
    refine ⟨⟨fun z => absurd z a2, fun _ => ⟨fun _ => ⟨ofr, ?_⟩, fun z => absurd a3 z⟩⟩, ⟨fun z => absurd z a1, fun _ => ⟨e1, ?_⟩⟩, FX7_pick y t3 (va_cpy s3 pick 0 0 L), t3, va_cpy s3 pick 0 0 L, s3, p3, upd f 0 0, m3, ?_, ?_, FE_0⟩
    · rw [tfr]
      exact j1
    · rw [e2]
      refine ⟨g1, ?_⟩
      dsimp only
      rw [g2]
      refine ⟨i1, ?_⟩
      dsimp only
      rw [i2]
      exact j2
    · unfold FX9_reach
      rw [if_neg a2, if_pos a3, tfr]
    · unfold FX10_reach
      dsimp only
      rw [if_neg a1, e2]
      dsimp only
      rw [g2]
      dsimp only
      rw [i2]
      dsimp only
      have : FX10_kth_isCome y (upd f 0 0) m3 = FX7_pick y t3 (va_cpy s3 pick 0 0 L) := j3
      rw [this]
  · have a1 : FX10_isIn x 0 (f 33 - 1) = 0 := by rw [h33, a1]
    have a2 : x < 0 ∨ (¬ x < 0 ∧ ¬ x < prg 1) := by
      rw [hp]
      exact a2
    refine ⟨⟨fun _ => trivial, fun z => ⟨fun z2 => ?_, fun _ => trivial⟩⟩, ⟨fun _ => trivial, fun z => absurd a1 z⟩, -1, this, pick, seen, opn, upd f 0 0, com, ?_, ?_, FE_0⟩
    · rcases a2 with q | ⟨q, q2⟩
      · exact absurd q z
      · exact absurd z2 q2
    · unfold FX9_reach
      rcases a2 with q | ⟨q, q2⟩
      · rw [if_pos q]
      · rw [if_neg q, if_neg q2]
    · unfold FX10_reach
      dsimp only
      rw [if_pos a1]
theorem mNr01 {x : Int32} (h : x = 0 ∨ x = 1) : mNr 22 x = x := by
  rcases h with rfl | rfl <;> decide +kernel
theorem l_hog {y : Int32} {g : mF} (hL : L ≤ 100) (hp : prg 1 = nI L) (h33 : g 33 = nI L) (hE : ∀ k, k < L → fop k = op k ∧ farg k = num k) (hJ : JN0 op num L) : ∀ (m i fuel fuel' : Nat) (this pick seen opn com hog : mF), i + m = L → m < fuel → m < fuel' → this 0 = nI L → (∀ j, j < i → (pick j = 0 ↔ hog j = 0)) → OX7_comeBack_b1 fuel (nI i) this pick seen opn prg op num ∧ OX10_hog_b1 fuel' y (nI i) g fop farg com hog ∧ ∃ t' p' s' o' c' h', FX7_comeBack_b1 fuel (nI i) this pick seen opn prg op num = (t', p', s', o') ∧ FX10_hog_b1 fuel' y (nI i) g fop farg com hog = (c', h') ∧ t' 0 = nI L ∧ ∀ j, j < L → (p' j = 0 ↔ h' j = 0)
  | _, _, 0, _, _, _, _, _, _, _, _, h, _, _, _ => absurd h (Nat.not_lt_zero _)
  | _, _, _ + 1, 0, _, _, _, _, _, _, _, _, h, _, _ => absurd h (Nat.not_lt_zero _)
  | 0, i, fuel + 1, fuel' + 1, this, pick, seen, opn, com, hog, h, _, _, h0, hq => by
    have c1 : this 0 ≤ nI i := by rw [h0]; exact nI_le (by omega) (by omega)
    have c2 : g 33 ≤ nI i := by rw [h33]; exact nI_le (by omega) (by omega)
    rw [OX7_comeBack_b1, FX7_comeBack_b1, OX10_hog_b1, FX10_hog_b1, if_pos c1, if_pos c2]
    exact ⟨⟨fun _ => trivial, fun z => absurd c1 z⟩, ⟨fun _ => trivial, fun z => absurd c2 z⟩, this, pick, seen, opn, com, hog, rfl, rfl, h0, fun j hj => hq j (by omega)⟩
  | m + 1, i, fuel + 1, fuel' + 1, this, pick, seen, opn, com, hog, h, hf, hf', h0, hq => by
    have z10 : ¬ (1 : Int32) = 0 := by decide
    have c1 : ¬ this 0 ≤ nI i := by rw [h0]; exact nI_ge (by omega) (by omega)
    have c2 : ¬ g 33 ≤ nI i := by rw [h33]; exact nI_ge (by omega) (by omega)
    have ci : (nI i).toNatClampNeg = i := nI_clamp (by omega)
    have vi : vp_in (nI i) 100 := vp_in_nI (by omega) (by decide)
    have vi' : vp_in (nI i) 101 := vp_in_nI (by omega) (by decide)
    have hi : i < L := by omega
    obtain ⟨b1, t1, s1, b2, b3, b4⟩ := p_wbegin (this := this) (seen := seen) hL hp
    obtain ⟨d1, t2, s2, p2, d2, d3, d4⟩ := p_goOn (op := op) (num := num) (bj := 0) hL (b3 opn) hi
    obtain ⟨e1, t3, s3, p3, e2, e3, e4⟩ := l_follow (op := op) (num := num) (bj := 0) hL L 0 10000 t2 s2 p2 (by omega) (by omega) d3 (Nat.zero_le _) (fun k hk => absurd hk (Nat.not_lt_zero k))
    rw [nI_0] at e1 e2
    have e1 : OX7_follow 0 t2 s2 p2 op num := e1
    have e2 : FX7_follow 0 t2 s2 p2 op num = (0, t3, s3, p3) := by
      unfold FX7_follow
      rw [e2]
    obtain ⟨g1, m1, g2, g3⟩ := p_nowhere (this := g) (com := com) hL h33
    obtain ⟨k1, m2, k2, k3⟩ := p_leaves (this := g) (com := m1) (fop := fop) (farg := farg) (op := op) (num := num) (wj := 1) (bj := 0) hL h33 hE hJ ⟨fun z => absurd z z10, fun z => absurd rfl z⟩ hi
    have hbn : bin L m2 := k3.2 (fun j hj => Or.inl (g3 j hj))
    obtain ⟨l1, m3, l2, l3, l4⟩ := p_spreads (this := g) (fop := fop) (farg := farg) (op := op) (num := num) (wj := 1) (bj := 0) hL h33 hE hJ ⟨fun z => absurd z z10, fun z => absurd rfl z⟩ hbn
    have eq0 : ∀ j, j < L → (s2 j = 0 ↔ m2 j = 0) := by
      intro j hj
      have q1 := d4.1 j hj
      have q2 := k3.1 j hj
      have q3 : ¬ s2 j = 0 ↔ ¬ m2 j = 0 := by
        rw [q1, q2, b4 j hj, g3 j hj]
      exact ⟨fun z => Classical.byContradiction fun w => q3.mpr w z, fun z => Classical.byContradiction fun w => q3.mp w z⟩
    have eqf := ClS_u e4 l3 eq0
    have hq' : ∀ j, j < i + 1 → (upd pick i (s3 i) j = 0 ↔ upd hog i (m3 i) j = 0) := by
      intro j hj
      by_cases e : j = i
      · subst e
        rw [pk_us, pk_us]
        exact eqf j hi
      · rw [pk_un e, pk_un e]
        exact hq j (by omega)
    obtain ⟨i1, i2, t', p', s', o', c', h', i3, i4, i5, i6⟩ := l_hog (y := y) hL hp h33 hE hJ m (i + 1) fuel fuel' t3 (upd pick i (s3 i)) s3 p3 m3 (upd hog i (m3 i)) (by omega) (by omega) (by omega) e3.1 hq'
    rw [OX7_comeBack_b1, FX7_comeBack_b1, OX10_hog_b1, FX10_hog_b1, if_neg c1, if_neg c2, b2, g2]
    dsimp only
    rw [d2, k2]
    dsimp only
    rw [e2, l2]
    dsimp only
    rw [ci, nI_1, mNr01 (e3.2.2.2.2 i hi), mNr01 (l4 i hi)]
    exact ⟨⟨fun z => absurd z c1, fun _ => ⟨b1, d1, e1, vi, vi, i1⟩⟩, ⟨fun z => absurd z c2, fun _ => ⟨g1, k1, l1, vi', vi, i2⟩⟩, t', p', s', o', c', h', i3, i4, i5, i6⟩
theorem c_hog {y : Int32} (hL : L ≤ 100) (hp : prg 1 = nI L) (h33 : f 33 = nI L) (hE : ∀ k, k < L → fop k = op k ∧ farg k = num k) (hJ : JN0 op num L) : OX9_hog y prg op num this pick seen opn ∧ OX10_hog y f fop farg com hog ∧ ∃ (v : Int32) (t' p' s' o' f' c' h' : mF), FX9_hog y prg op num this pick seen opn = (v, t', p', s', o') ∧ FX10_hog y f fop farg com hog = (v, f', c', h') ∧ FE f f' := by
  have h330 : upd f 0 0 33 = nI L := (pk_un (by decide)).trans h33
  obtain ⟨a1, a2, t', p', s', o', c', h', a3, a4, a5, a6⟩ := l_hog (y := y) (g := upd f 0 0) hL hp h330 hE hJ L 0 10000 10000 (upd this 0 (prg 1)) pick seen opn com hog (by omega) (by omega) (by omega) (pk_us.trans hp) (fun j hj => absurd hj (Nat.not_lt_zero j))
  rw [nI_0] at a1 a2 a3 a4
  obtain ⟨j1, j2, j3⟩ := l_pickh (y := y) (t := t') (pk := p') (cm := h') (g := upd f 0 0) hL a5 h330 a6 L 0 10000 10000 0 (by omega) (by omega) (by omega)
  rw [nI_0] at j1 j2 j3
  have e9 : FX7_comeBack this pick seen opn prg op num = (0, t', p', s', o') := by
    unfold FX7_comeBack
    rw [a3]
  refine ⟨⟨a1, ?_⟩, ⟨a2, ?_⟩, FX7_pick y t' p', t', p', s', o', upd f 0 0, c', h', ?_, ?_, FE_0⟩
  · rw [e9]
    exact j1
  · rw [a4]
    exact j2
  · unfold FX9_hog
    rw [e9]
  · unfold FX10_hog
    rw [a4]
    dsimp only
    have : FX10_kth_isHog y (upd f 0 0) h' = FX7_pick y t' p' := j3
    rw [this]
end RCH
