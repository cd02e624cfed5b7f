/-! PURE: what was read becomes the program (GENERATED, wip/gen/p/89.py) -/
section BGC
variable {f rop rnum rla rj : mF} {L K J : Nat}
theorem l_bg1 (h33 : f 33 = nI L) (hL : L ≤ 100) : ∀ (m i fuel : Nat) (op arg : mF), i + m = L → m < fuel → OX10_begins_b1 fuel (nI i) f rop rnum op arg ∧ ∀ k, k < L → (FX10_begins_b1 fuel (nI i) f rop rnum op arg).1 k = (if i ≤ k then rop k else op k) ∧ (FX10_begins_b1 fuel (nI i) f rop rnum op arg).2 k = (if i ≤ k then rnum k else arg k)
  | _, _, 0, _, _, _, h => absurd h (Nat.not_lt_zero _)
  | 0, i, fuel + 1, op, arg, h, _ => by
    have c : f 33 ≤ nI i := by rw [h33]; exact nI_le (by omega) (by omega)
    rw [OX10_begins_b1, FX10_begins_b1, if_pos c]
    exact ⟨⟨fun _ => trivial, fun z => absurd c z⟩, fun k hk => by rw [if_neg (by omega), if_neg (by omega)]; exact ⟨rfl, rfl⟩⟩
  | m + 1, i, fuel + 1, op, arg, h, _ => by
    have c : ¬ f 33 ≤ nI i := by rw [h33]; exact nI_ge (by omega) (by omega)
    have ci : (nI i).toNatClampNeg = i := nI_clamp (by omega)
    have vi : vp_in (nI i) 100 := vp_in_nI (by omega) (by decide)
    obtain ⟨i1, i2⟩ := l_bg1 h33 hL m (i + 1) fuel (upd op i (rop i)) (upd arg i (rnum i)) (by omega) (by omega)
    rw [OX10_begins_b1, FX10_begins_b1, if_neg c, ci, nI_1]
    refine ⟨⟨fun z => absurd z c, fun _ => ⟨vi, vi, vi, vi, i1⟩⟩, fun k hk => ?_⟩
    obtain ⟨j1, j2⟩ := i2 k hk
    refine ⟨j1.trans ?_, j2.trans ?_⟩
    · by_cases e : k = i
      · subst e
        rw [if_neg (by omega), pk_us, if_pos (Nat.le_refl _)]
      · rw [pk_un e]
        by_cases q : i ≤ k
        · rw [if_pos q, if_pos (by omega)]
        · rw [if_neg q, if_neg (by omega)]
    · by_cases e : k = i
      · subst e
        rw [if_neg (by omega), pk_us, if_pos (Nat.le_refl _)]
      · rw [pk_un e]
        by_cases q : i ≤ k
        · rw [if_pos q, if_pos (by omega)]
        · rw [if_neg q, if_neg (by omega)]
theorem l_bg3 (h34 : f 34 = nI K) (hK : K ≤ 101) : ∀ (m i fuel : Nat) (la : mF), i + m = K → m < fuel → OX10_begins_b3 fuel (nI i) f rla la ∧ ∀ k, k < K → FX10_begins_b3 fuel (nI i) f rla la k = if i ≤ k then rla k else la k
  | _, _, 0, _, _, h => absurd h (Nat.not_lt_zero _)
  | 0, i, fuel + 1, la, h, _ => by
    have c : f 34 ≤ nI i := by rw [h34]; exact nI_le (by omega) (by omega)
    rw [OX10_begins_b3, FX10_begins_b3, if_pos c]
    exact ⟨⟨fun _ => trivial, fun z => absurd c z⟩, fun k hk => by rw [if_neg (by omega)]⟩
  | m + 1, i, fuel + 1, la, h, _ => by
    have c : ¬ f 34 ≤ nI i := by rw [h34]; exact nI_ge (by omega) (by omega)
    have ci : (nI i).toNatClampNeg = i := nI_clamp (by omega)
    have vi : vp_in (nI i) 101 := vp_in_nI (by omega) (by decide)
    obtain ⟨i1, i2⟩ := l_bg3 h34 hK m (i + 1) fuel (upd la i (rla i)) (by omega) (by omega)
    rw [OX10_begins_b3, FX10_begins_b3, if_neg c, ci, nI_1]
    refine ⟨⟨fun z => absurd z c, fun _ => ⟨vi, vi, i1⟩⟩, fun k hk => (i2 k hk).trans ?_⟩
    by_cases e : k = i
    · subst e
      rw [if_neg (by omega), pk_us, if_pos (Nat.le_refl _)]
    · rw [pk_un e]
      by_cases q : i ≤ k
      · rw [if_pos q, if_pos (by omega)]
      · rw [if_neg q, if_neg (by omega)]
theorem l_bg5 (h35 : f 35 = nI J) (hJ : J ≤ 4) : ∀ (m i fuel : Nat) (jn : mF), i + m = 2 * J → m < fuel → OX10_begins_b5 fuel (nI i) f rj jn ∧ ∀ k, k < 2 * J → FX10_begins_b5 fuel (nI i) f rj jn k = if i ≤ k then rj k else jn k
  | _, _, 0, _, _, h => absurd h (Nat.not_lt_zero _)
  | 0, i, fuel + 1, jn, h, _ => by
    have e2 : (2 : Int32) * f 35 = nI (2 * J) := by rw [h35]; exact nI_mul 2 J
    have c : (2 : Int32) * f 35 ≤ nI i := by rw [e2]; exact nI_le (by omega) (by omega)
    rw [OX10_begins_b5, FX10_begins_b5, if_pos c]
    exact ⟨⟨fun _ => trivial, fun z => absurd c z⟩, fun k hk => by rw [if_neg (by omega)]⟩
  | m + 1, i, fuel + 1, jn, h, _ => by
    have e2 : (2 : Int32) * f 35 = nI (2 * J) := by rw [h35]; exact nI_mul 2 J
    have c : ¬ (2 : Int32) * f 35 ≤ nI i := by rw [e2]; exact nI_ge (by omega) (by omega)
    have ci : (nI i).toNatClampNeg = i := nI_clamp (by omega)
    have vi : vp_in (nI i) 8 := vp_in_nI (by omega) (by decide)
    obtain ⟨i1, i2⟩ := l_bg5 h35 hJ m (i + 1) fuel (upd jn i (rj i)) (by omega) (by omega)
    rw [OX10_begins_b5, FX10_begins_b5, if_neg c, ci, nI_1]
    refine ⟨⟨fun z => absurd z c, fun _ => ⟨vi, vi, i1⟩⟩, fun k hk => (i2 k hk).trans ?_⟩
    by_cases e : k = i
    · subst e
      rw [if_neg (by omega), pk_us, if_pos (Nat.le_refl _)]
    · rw [pk_un e]
      by_cases q : i ≤ k
      · rw [if_pos q, if_pos (by omega)]
      · rw [if_neg q, if_neg (by omega)]
theorem l_bg7 : ∀ (m i fuel : Nat) (n : mF), i + m = 532 → m < fuel → OX10_begins_b7 fuel (nI i) n ∧ ∀ k, k < 532 → FX10_begins_b7 fuel (nI i) n k = if i ≤ k then 0 else n k
  | _, _, 0, _, _, h => absurd h (Nat.not_lt_zero _)
  | 0, i, fuel + 1, n, h, _ => by
    have c : (532 : Int32) ≤ nI i := nI_le (show 532 ≤ i by omega) (by omega)
    rw [OX10_begins_b7, FX10_begins_b7, if_pos c]
    exact ⟨⟨fun _ => trivial, fun z => absurd c z⟩, fun k hk => by rw [if_neg (by omega)]⟩
  | m + 1, i, fuel + 1, n, h, _ => by
    have c : ¬ (532 : Int32) ≤ nI i := nI_ge (show i < 532 by omega) (by decide)
    have ci : (nI i).toNatClampNeg = i := nI_clamp (by omega)
    have vi : vp_in (nI i) 532 := vp_in_nI (by omega) (by decide)
    obtain ⟨i1, i2⟩ := l_bg7 m (i + 1) fuel (upd n i 0) (by omega) (by omega)
    rw [OX10_begins_b7, FX10_begins_b7, if_neg c, ci, nI_1]
    refine ⟨⟨fun z => absurd z c, fun _ => ⟨vi, i1⟩⟩, fun k hk => (i2 k hk).trans ?_⟩
    by_cases e : k = i
    · subst e
      rw [if_neg (by omega), pk_us, if_pos (Nat.le_refl _)]
    · rw [pk_un e]
      by_cases q : i ≤ k
      · rw [if_pos q, if_pos (by omega)]
      · rw [if_neg q, if_neg (by omega)]
theorem l_bg10 {rm : mF} {b mm : Nat} (hb : b = 174 * mm) (hm : mm < 2) (h45 : f 45 = nI b) : ∀ (m i fuel : Nat) (n : mF), i + m = 96 → m < fuel → OX10_begins_b10 fuel (nI mm) (nI i) f rm n ∧ ∀ k, FX10_begins_b10 fuel (nI mm) (nI i) f rm n k = if b + i ≤ k ∧ k < b + 96 then rm (96 * mm + (k - b)) else n k
  | _, _, 0, _, _, h => absurd h (Nat.not_lt_zero _)
  | 0, i, fuel + 1, n, h, _ => by
    have c : (96 : Int32) ≤ nI i := nI_le (show 96 ≤ i by omega) (by omega)
    rw [OX10_begins_b10, FX10_begins_b10, if_pos c]
    exact ⟨⟨fun _ => trivial, fun z => absurd c z⟩, fun k => by rw [if_neg (by omega)]⟩
  | m + 1, i, fuel + 1, n, h, _ => by
    have c : ¬ (96 : Int32) ≤ nI i := nI_ge (show i < 96 by omega) (by decide)
    have e1 : f 45 + nI i = nI (b + i) := by rw [h45]; exact nI_add b i
    have e2 : (96 : Int32) * nI mm + nI i = nI (96 * mm + i) := by rw [show (96 : Int32) * nI mm = nI (96 * mm) from nI_mul 96 mm, nI_add]
    have c1 : (nI (b + i)).toNatClampNeg = b + i := nI_clamp (by omega)
    have c2 : (nI (96 * mm + i)).toNatClampNeg = 96 * mm + i := nI_clamp (by omega)
    have v1 : vp_in (nI (b + i)) 532 := vp_in_nI (by omega) (by decide)
    have v2 : vp_in (nI (96 * mm + i)) 192 := vp_in_nI (by omega) (by decide)
    obtain ⟨i1, i2⟩ := l_bg10 (rm := rm) hb hm h45 m (i + 1) fuel (upd n (b + i) (rm (96 * mm + i))) (by omega) (by omega)
    rw [OX10_begins_b10, FX10_begins_b10, if_neg c, e1, e2, c1, c2, nI_1]
    refine ⟨⟨fun z => absurd z c, fun _ => ⟨v2, v1, i1⟩⟩, fun k => (i2 k).trans ?_⟩
    by_cases e : k = b + i
    · subst e
      rw [if_neg (by omega), pk_us, if_pos (by omega), show b + i - b = i by omega]
    · rw [pk_un e]
      by_cases q : b + i ≤ k ∧ k < b + 96
      · rw [if_pos q, if_pos (by omega)]
      · rw [if_neg q, if_neg (by omega)]
end BGC
