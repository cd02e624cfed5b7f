/-! PURE: the lines that tell a join (GENERATED, wip/gen/p/79.py) -/
section LJN
variable {R f tp tr prg snd lnk rj : mF} {fl : mFl} {S lo J : Nat}
/-- one side of the joins told so far: their codes -/
def JS (J side : Nat) (snd lnk rj : mF) (g : Nat → Nat) : Prop := (∀ k, k < J → ∃ s i : Nat, s < 2 ∧ i < 2 ∧ snd k = nI s ∧ lnk k = nI i ∧ g k = 2 * s + i ∧ rj (2 * k + side) = nI (g k)) ∧ ∀ k k', k < J → k' < J → k ≠ k' → g k ≠ g k'
theorem ph4 : ∀ a b c d e : Fin 4, a = b ∨ a = c ∨ a = d ∨ a = e ∨ b = c ∨ b = d ∨ b = e ∨ c = d ∨ c = e ∨ d = e := by decide +kernel
theorem JS_lt {side c : Nat} {g : Nat → Nat} (h : JS J side snd lnk rj g) (hc : c < 4) (hn : ∀ k, k < J → g k ≠ c) : J ≤ 3 := by
  rcases Nat.lt_or_ge 3 J with q | q
  · have b : ∀ k, k < J → g k < 4 := fun k hk => by
      obtain ⟨s, i, h1, h2, -, -, h3, -⟩ := h.1 k hk
      omega
    have d := fun k k' (h1 : k < 4) (h2 : k' < 4) (h3 : k ≠ k') => h.2 k k' (by omega) (by omega) h3
    have n := fun k (h1 : k < 4) => hn k (by omega)
    have e := ph4 ⟨g 0, b 0 (by omega)⟩ ⟨g 1, b 1 (by omega)⟩ ⟨g 2, b 2 (by omega)⟩ ⟨g 3, b 3 (by omega)⟩ ⟨c, hc⟩
    simp only [Fin.mk.injEq] at e
    rcases e with e | e | e | e | e | e | e | e | e | e
    · exact absurd e (d 0 1 (by decide) (by decide) (by decide))
    · exact absurd e (d 0 2 (by decide) (by decide) (by decide))
    · exact absurd e (d 0 3 (by decide) (by decide) (by decide))
    · exact absurd e (n 0 (by decide))
    · exact absurd e (d 1 2 (by decide) (by decide) (by decide))
    · exact absurd e (d 1 3 (by decide) (by decide) (by decide))
    · exact absurd e (n 1 (by decide))
    · exact absurd e (d 2 3 (by decide) (by decide) (by decide))
    · exact absurd e (n 2 (by decide))
    · exact absurd e (n 3 (by decide))
  · exact q
theorem jcode {a c s i : Nat} (ha : a < 2) (hc : c < 2) (hs : s < 2) (hi : i < 2) : (nI s = nI a ∧ nI i = nI c) ↔ nI (2 * s + i) = nI (2 * a + c) := by
  constructor
  · rintro ⟨h1, h2⟩
    rw [(nI_eq (by omega) (by omega)).mp h1, (nI_eq (by omega) (by omega)).mp h2]
  · intro h
    have := (nI_eq (by omega) (by omega)).mp h
    rw [show s = a by omega, show i = c by omega]
    exact ⟨rfl, rfl⟩
theorem l_snd1 {side : Nat} {x : Int32} (h30 : f 30 = nI J) (hJ : J ≤ 4) : ∀ (m i fuel : Nat), i + m = J → m < fuel → OX10_readsLink_b2 fuel x (nI side) 1 (nI i) f rj ∧ FX10_readsLink_b2 fuel x (nI side) 1 (nI i) f rj = 1
  | _, _, 0, _, h => absurd h (Nat.not_lt_zero _)
  | 0, i, fuel + 1, h, _ => by
    have c : f 30 ≤ nI i := by rw [h30]; exact nI_le (by omega) (by omega)
    rw [OX10_readsLink_b2, FX10_readsLink_b2, if_pos c]
    exact ⟨⟨fun _ => trivial, fun z => absurd c z⟩, rfl⟩
  | m + 1, i, fuel + 1, h, _ => by
    have z10 : ¬ (1 : Int32) = 0 := by decide
    have c : ¬ f 30 ≤ nI i := by rw [h30]; exact nI_ge (by omega) (by omega)
    obtain ⟨i1, i2⟩ := l_snd1 (side := side) (x := x) h30 hJ m (i + 1) fuel (by omega) (by omega)
    rw [OX10_readsLink_b2, FX10_readsLink_b2, if_neg c, if_neg z10, nI_1]
    exact ⟨⟨fun z => absurd z c, fun _ => ⟨fun z => absurd z z10, fun _ => i1⟩⟩, i2⟩
theorem l_sndo {side : Nat} {x : Int32} (h30 : f 30 = nI J) (hJ : J ≤ 4) (h9 : FX10_isIn (f 9) 0 1 = 0) : ∀ (m i fuel : Nat), i + m = J → m < fuel → OX10_readsLink_b2 fuel x (nI side) 0 (nI i) f rj ∧ FX10_readsLink_b2 fuel x (nI side) 0 (nI i) f rj = 0
  | _, _, 0, _, h => absurd h (Nat.not_lt_zero _)
  | 0, i, fuel + 1, h, _ => by
    have c : f 30 ≤ nI i := by rw [h30]; exact nI_le (by omega) (by omega)
    rw [OX10_readsLink_b2, FX10_readsLink_b2, if_pos c]
    exact ⟨⟨fun _ => trivial, fun z => absurd c z⟩, rfl⟩
  | m + 1, i, fuel + 1, h, _ => by
    have c : ¬ f 30 ≤ nI i := by rw [h30]; exact nI_ge (by omega) (by omega)
    obtain ⟨i1, i2⟩ := l_sndo (side := side) (x := x) h30 hJ h9 m (i + 1) fuel (by omega) (by omega)
    rw [OX10_readsLink_b2, FX10_readsLink_b2, if_neg c, if_pos rfl, h9, nI_1]
    exact ⟨⟨fun z => absurd z c, fun _ => ⟨fun _ => ⟨fun _ => i1, fun z => absurd rfl z⟩, fun z => absurd rfl z⟩⟩, i2⟩
/-- the search for the same code, with either of the class's two searches -/
def FS (rc : Bool) (fuel : Nat) (y1 y2 y3 : Int32) (prg snd lnk : mF) : Int32 := if rc then FX4_isReceiving_b1 fuel y1 y2 y3 prg snd lnk else FX4_isSending_b1 fuel y1 y2 y3 prg snd lnk
def OS (rc : Bool) (fuel : Nat) (y1 y2 y3 : Int32) (prg snd lnk : mF) : Prop := if rc then OX4_isReceiving_b1 fuel y1 y2 y3 prg snd lnk else OX4_isSending_b1 fuel y1 y2 y3 prg snd lnk
theorem FS_s {rc : Bool} {n : Nat} {y1 y2 y3 : Int32} : FS rc (n + 1) y1 y2 y3 prg snd lnk = if (prg 7) ≤ y3 then 0 else (if snd y3.toNatClampNeg = y1 then (if lnk y3.toNatClampNeg = y2 then 1 else FS rc n y1 y2 (y3 + 1) prg snd lnk) else FS rc n y1 y2 (y3 + 1) prg snd lnk) := by
  cases rc <;> rfl
theorem OS_s {rc : Bool} {n : Nat} {y1 y2 y3 : Int32} (h : ((prg 7) ≤ y3 → True) ∧ (¬ ((prg 7) ≤ y3) → (vp_in y3 4 ∧ ((snd y3.toNatClampNeg = y1 → (vp_in y3 4 ∧ ((lnk y3.toNatClampNeg = y2 → True) ∧ (¬ (lnk y3.toNatClampNeg = y2) → OS rc n y1 y2 (y3 + 1) prg snd lnk)))) ∧ (¬ (snd y3.toNatClampNeg = y1) → OS rc n y1 y2 (y3 + 1) prg snd lnk))))) : OS rc (n + 1) y1 y2 y3 prg snd lnk := by
  cases rc <;> exact h
theorem l_snd {rc : Bool} {side a c : Nat} {g : Nat → Nat} (h30 : f 30 = nI J) (h7 : prg 7 = nI J) (hJ : J ≤ 4) (hs : side < 2) (ha : a < 2) (hc : c < 2) (h9 : f 9 = nI c) (hj : JS J side snd lnk rj g) : ∀ (m i fuel fuel' : Nat), i + m = J → m < fuel → m < fuel' → OS rc fuel (nI a) (nI c) (nI i) prg snd lnk ∧ OX10_readsLink_b2 fuel' (nI a) (nI side) 0 (nI i) f rj ∧ FX10_readsLink_b2 fuel' (nI a) (nI side) 0 (nI i) f rj = FS rc fuel (nI a) (nI c) (nI i) prg snd lnk ∧ (FS rc fuel (nI a) (nI c) (nI i) prg snd lnk = 0 → ∀ k, i ≤ k → k < J → g k ≠ 2 * a + c)
  | _, _, 0, _, _, h, _ => absurd h (Nat.not_lt_zero _)
  | _, _, _ + 1, 0, _, _, h => absurd h (Nat.not_lt_zero _)
  | 0, i, fuel + 1, fuel' + 1, h, _, _ => by
    have c1 : f 30 ≤ nI i := by rw [h30]; exact nI_le (by omega) (by omega)
    have c2 : prg 7 ≤ nI i := by rw [h7]; exact nI_le (by omega) (by omega)
    rw [OX10_readsLink_b2, FX10_readsLink_b2, FS_s, if_pos c1, if_pos c2]
    exact ⟨OS_s ⟨fun _ => trivial, fun z => absurd c2 z⟩, ⟨fun _ => trivial, fun z => absurd c1 z⟩, rfl, fun _ k h1 h2 => by omega⟩
  | m + 1, i, fuel + 1, fuel' + 1, h, _, _ => by
    have z10 : ¬ (1 : Int32) = 0 := by decide
    have c1 : ¬ f 30 ≤ nI i := by rw [h30]; exact nI_ge (by omega) (by omega)
    have c2 : ¬ prg 7 ≤ nI i := by rw [h7]; exact nI_ge (by omega) (by omega)
    have ci : (nI i).toNatClampNeg = i := nI_clamp (by omega)
    have vi : vp_in (nI i) 4 := vp_in_nI (by omega) (by decide)
    have e2 : (2 : Int32) * nI i + nI side = nI (2 * i + side) := by rw [show (2 : Int32) * nI i = nI (2 * i) from nI_mul 2 i, nI_add]
    have e3 : (2 : Int32) * nI a + f 9 = nI (2 * a + c) := by rw [h9, show (2 : Int32) * nI a = nI (2 * a) from nI_mul 2 a, nI_add]
    have ci2 : (nI (2 * i + side)).toNatClampNeg = 2 * i + side := nI_clamp (by omega)
    have v8 : vp_in (nI (2 * i + side)) 8 := vp_in_nI (by omega) (by decide)
    have e0 : FX10_isIn (f 9) 0 1 = 1 := by
      rw [h9]
      rcases (show c = 0 ∨ c = 1 by omega) with rfl | rfl <;> rfl
    obtain ⟨i1, i2, i3, i4⟩ := l_snd (rc := rc) h30 h7 hJ hs ha hc h9 hj m (i + 1) fuel fuel' (by omega) (by omega) (by omega)
    obtain ⟨j1, j2⟩ := l_snd1 (f := f) (rj := rj) (side := side) (x := nI a) h30 hJ m (i + 1) fuel' (by omega) (by omega)
    obtain ⟨s, l, h1, h2, h3, h4, h5, h6⟩ := hj.1 i (by omega)
    have jc := jcode ha hc h1 h2
    rw [OX10_readsLink_b2, FX10_readsLink_b2, FS_s, if_neg c1, if_neg c2, if_pos rfl, e0, if_neg z10, e2, e3, ci, ci2, h3, h4, h6, h5, nI_1]
    by_cases q : nI (2 * s + l) = nI (2 * a + c)
    · obtain ⟨q1, q2⟩ := jc.mpr q
      rw [if_pos q, if_pos q1, if_pos q2]
      refine ⟨OS_s ⟨fun z => absurd z c2, fun _ => ⟨vi, fun _ => ⟨vi, fun _ => trivial, fun z => absurd (by rw [ci, h4]; exact q2) z⟩, fun z => absurd (by rw [ci, h3]; exact q1) z⟩⟩, ⟨fun z => absurd z c1, fun _ => ⟨fun _ => ⟨fun z => absurd z z10, fun _ => ⟨v8, fun _ => j1, fun z => absurd q z⟩⟩, fun z => absurd rfl z⟩⟩, j2, fun z => absurd z z10⟩
    · rw [if_neg q]
      refine ⟨OS_s ⟨fun z => absurd z c2, fun _ => ⟨vi, fun _ => ⟨vi, fun _ => trivial, fun _ => by rw [nI_1]; exact i1⟩, fun _ => by rw [nI_1]; exact i1⟩⟩, ⟨fun z => absurd z c1, fun _ => ⟨fun _ => ⟨fun z => absurd z z10, fun _ => ⟨v8, fun z => absurd z q, fun _ => i2⟩⟩, fun z => absurd rfl z⟩⟩, ?_, ?_⟩
      · by_cases q1 : nI s = nI a
        · rw [if_pos q1, if_neg (fun q2 => q (jc.mp ⟨q1, q2⟩))]
          exact i3
        · rw [if_neg q1]
          exact i3
      · intro z
        have z' : FS rc fuel (nI a) (nI c) (nI (i + 1)) prg snd lnk = 0 := by
          by_cases q1 : nI s = nI a
          · rw [if_pos q1, if_neg (fun q2 => q (jc.mp ⟨q1, q2⟩))] at z
            exact z
          · rw [if_neg q1] at z
            exact z
        intro k k1 k2 e
        by_cases ek : k = i
        · subst ek
          exact q (by rw [← h5, e])
        · exact i4 z' k (by omega) k2 e
theorem p_link {rc : Bool} {side a : Nat} {g : Nat → Nat} (hT : TP tp tr) (hS : S ≤ 700) (h : TK S lo R f fl) (h9 : R 9 = -1) (h30 : f 30 = nI J) (h7 : prg 7 = nI J) (hJ : J ≤ 4) (hs : side < 2) (ha : a < 2) (hj : JS J side snd lnk rj g) : OX5_takeNumber 0 1 tp R ∧ OX10_readsLink (nI a) (nI side) f fl tr rj ∧ ((∃ (c : Nat) (R' f' : mF) (fl' : mFl), c < 2 ∧ FX5_takeNumber 0 1 tp R = (nI c, R') ∧ OS rc 10000 (nI a) (nI c) 0 prg snd lnk ∧ FS rc 10000 (nI a) (nI c) 0 prg snd lnk = 0 ∧ FX10_readsLink (nI a) (nI side) f fl tr rj = (1, f', fl', upd rj (2 * J + side) (nI (2 * a + c))) ∧ TK S lo R' f' fl' ∧ AR R R' ∧ AN f f' ∧ J ≤ 3 ∧ ∀ k, k < J → g k ≠ 2 * a + c) ∨ (∃ (c : Nat) (R' f' : mF) (fl' : mFl), c < 2 ∧ FX5_takeNumber 0 1 tp R = (nI c, R') ∧ OS rc 10000 (nI a) (nI c) 0 prg snd lnk ∧ ¬ FS rc 10000 (nI a) (nI c) 0 prg snd lnk = 0 ∧ FX10_readsLink (nI a) (nI side) f fl tr rj = (0, f', fl', rj) ∧ R' 9 = -1 ∧ RF (upd R' 9 (8 * R 6 + 2)) f' ∧ AX f f') ∨ ∃ (R' f' : mF) (fl' : mFl), FX5_takeNumber 0 1 tp R = (0, R') ∧ FX10_readsLink (nI a) (nI side) f fl tr rj = (0, f', fl', rj) ∧ RF R' f' ∧ AX f f') := by
  have z10 : ¬ (1 : Int32) = 0 := by decide
  obtain ⟨h2, h5, ⟨hp, p, p1, p2⟩, -⟩ := id h
  obtain ⟨n1, n2, n3⟩ := p_number 0 1 hT hS h h9
  unfold OX10_readsLink FX10_readsLink
  rcases n3 with ⟨v, R', f', fl', a1, a2, a3, a4, a5, a6, a7, a8, a9, a10, a11⟩ | ⟨R', f', a1, a2, a3, a4⟩
  · obtain ⟨c, -, hc, rfl⟩ := rng (a := 0) (b := 1) a7 a8 (by decide) (by decide)
    obtain ⟨l1, l2, l3, l4⟩ := l_snd (rc := rc) (a := a) (c := c) h30 h7 hJ hs ha (by omega) a10 hj J 0 10000 10000 (by omega) (by omega) (by omega)
    rw [nI_0] at l1 l2 l3 l4
    rw [if_pos a11, l3]
    dsimp only
    by_cases q : FS rc 10000 (nI a) (nI c) 0 prg snd lnk = 0
    · have hn := fun k hk => l4 q k (Nat.zero_le _) hk
      have h3 := JS_lt hj (show 2 * a + c < 4 by omega) hn
      have e30 : f' 30 = nI J := (a5 30 (by decide) (by decide) (by decide) (by decide) (by decide)).trans h30
      have ei : (2 : Int32) * f' 30 + nI side = nI (2 * J + side) := by rw [e30, show (2 : Int32) * nI J = nI (2 * J) from nI_mul 2 J, nI_add]
      have ec : (2 : Int32) * nI a + f' 37 = nI (2 * a + c) := by rw [a6, show (2 : Int32) * nI a = nI (2 * a) from nI_mul 2 a, nI_add]
      rw [if_pos q, a2]
      dsimp only
      rw [if_neg z10, ei, ec, nI_clamp (by omega)]
      exact ⟨n1, ⟨fun _ => ⟨l2, fun _ => ⟨n2, fun z => absurd z z10, fun _ => vp_in_nI (by omega) (by decide)⟩, fun z => absurd q z⟩, fun z => absurd a11 z⟩, Or.inl ⟨c, R', f', fl', by omega, a1, l1, q, rfl, a3, a4, a5, h3, hn⟩⟩
    · have rf := RF_k (R := R') (k := 2) hp p2 (by omega) (by decide)
      rw [if_neg q, bad_e (k := 2) (by rw [a11]; decide)]
      exact ⟨n1, ⟨fun _ => ⟨l2, fun z => absurd z q, fun _ => Or.inl rfl⟩, fun z => absurd a11 z⟩, Or.inr (Or.inl ⟨c, R', _, fl, by omega, a1, l1, q, rfl, AR_9 a4 h9, rf, AX_b⟩)⟩
  · rcases TK_3 h with ⟨k1, k2, k3, -⟩ | ⟨k1, k2⟩
    · have e0 : FX10_isIn (f 9) 0 1 = 0 := by
        unfold FX10_reads at a2
        rw [if_pos k2] at a2
        dsimp only at a2
        by_cases e : FX10_isIn (f 9) 0 1 = 0
        · exact e
        · rw [if_neg e] at a2
          exact absurd (congrArg Prod.fst a2) z10
      obtain ⟨l1, l2⟩ := l_sndo (f := f) (rj := rj) (side := side) (x := nI a) h30 hJ e0 J 0 10000 (by omega) (by omega)
      rw [nI_0] at l1 l2
      rw [if_pos k2, l2]
      dsimp only
      rw [if_pos rfl, a2]
      exact ⟨n1, ⟨fun _ => ⟨l1, fun _ => ⟨n2, fun _ => trivial, fun z => absurd rfl z⟩, fun z => absurd rfl z⟩, fun z => absurd k2 z⟩, Or.inr (Or.inr ⟨R', f', fl, a1, if_pos rfl, a3, a4⟩)⟩
    · have a2' := a2
      unfold FX10_reads at a2'
      rw [if_neg k2] at a2'
      have e1 : (FX10_bad 1 f).2 = f' := congrArg (fun t => t.2.1) a2'
      rw [if_neg k2]
      refine ⟨n1, ⟨fun z => absurd z k2, fun _ => bad_z⟩, Or.inr (Or.inr ⟨R', f', fl, a1, ?_, a3, a4⟩)⟩
      have e0 : (FX10_bad 1 f).1 = 0 := congrArg (fun t => t.1) a2'
      dsimp only
      rw [e0, e1]
end LJN
