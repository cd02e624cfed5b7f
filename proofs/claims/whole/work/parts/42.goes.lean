/-! PURE: a join's turn, by index (GENERATED, wip/gen/p/42.py) -/
/-- what comes out, if anything can -/
def gOut (k x y : Nat) (f joins n : mF) : Int32 × mF × mF :=
  if n (y + 7) = 1 then (if n (y + 4) = -1 then (0, f, n) else (let u := FX10_comesOut (nI k) (nI x) (nI y) f joins n; (0, u.2.1, u.2.2))) else (0, f, n)
def OgOut (k x y : Nat) (f joins n : mF) : Prop := n (y + 7) = 1 → ¬ n (y + 4) = -1 → OX10_comesOut (nI k) (nI x) (nI y) f joins n
theorem p_goes {k s i r j x y : Nat} {joins n f : mF} (hk : k < 4) (hs : s < 2) (hi : i < 2) (hr : r < 2) (hj : j < 2) (e1 : joins (2 * k) = nI (2 * s + i)) (e2 : joins (2 * k + 1) = nI (2 * r + j)) (ex : x = 174 * s + 154 + 10 * i) (ey : y = 174 * r + 154 + 10 * j) : (n (174 * s + 97) = 1 ∨ n (174 * r + 97) = 1 → OX10_goes (nI k) f joins n ∧ FX10_goes (nI k) f joins n = (0, f, n)) ∧ (¬ n (174 * s + 97) = 1 → ¬ n (174 * r + 97) = 1 → ((n x = -1 ∨ n (x + 2) ≤ 0 ∨ ¬ n (y + 7) = 0) → (OgOut k x y f joins n → OX10_goes (nI k) f joins n) ∧ FX10_goes (nI k) f joins n = gOut k x y f joins n) ∧ (¬ n x = -1 → ¬ n (x + 2) ≤ 0 → n (y + 7) = 0 → (OX10_comesIn (nI k) (nI x) (nI y) f joins n ∧ OgOut k x y (FX10_comesIn (nI k) (nI x) (nI y) f joins n).2.1 joins (FX10_comesIn (nI k) (nI x) (nI y) f joins n).2.2 → OX10_goes (nI k) f joins n) ∧ FX10_goes (nI k) f joins n = gOut k x y (FX10_comesIn (nI k) (nI x) (nI y) f joins n).2.1 joins (FX10_comesIn (nI k) (nI x) (nI y) f joins n).2.2)) := by
  obtain ⟨i1, i2, i3, i4⟩ := jn_idx hk
  obtain ⟨l1, -⟩ := jn_link hs hi
  obtain ⟨l2, -⟩ := jn_link hr hj
  rw [← ex] at l1
  rw [← ey] at l2
  obtain ⟨d1, d2⟩ := p_dead (n := n) hk hs hi hr hj e1 e2
  obtain ⟨c1, c2⟩ := p_canSend (n := n) (show x < 500 by omega) (show y < 500 by omega)
  have y71 : (nI y + 7).toNatClampNeg = y + 7 := (ix (a := y) (k := 7) (by omega)).1
  have y72 : vp_in (nI y + 7) 532 := (ix (a := y) (k := 7) (by omega)).2
  have y41 : (nI y + 4).toNatClampNeg = y + 4 := (ix (a := y) (k := 4) (by omega)).1
  have y42 : vp_in (nI y + 4) 532 := (ix (a := y) (k := 4) (by omega)).2
  have z10 : ¬ (1 : Int32) = 0 := by decide
  have og : ∀ f n, OgOut k x y f joins n → (n (y + 7) = 1 → ¬ n (y + 4) = -1 → OX10_comesOut (nI k) (nI x) (nI y) f joins n) := fun _ _ h => h
  refine ⟨fun h => ?_, fun h1 h2 => ⟨fun h => ?_, fun h3 h4 h5 => ?_⟩⟩
  · have dd : FX10_isDead (nI k) joins n = 1 := by
      rw [d2]
      rcases h with h | h
      · rw [if_pos h]
      · rw [if_pos h]
        split <;> rfl
    constructor
    · simp only [OX10_goes, d1, dd, z10, if_true, if_false, true_implies, false_implies, implies_true, not_true_eq_false, not_false_eq_true, and_true, true_and, and_self, or_true, true_or]
    · simp only [FX10_goes, dd, z10, if_false]
  · have dd : FX10_isDead (nI k) joins n = 0 := by rw [d2, if_neg h1, if_neg h2]
    have cc : FX10_canSend (nI x) (nI y) n = 0 := by
      rw [c2]
      rcases h with h | h | h
      · rw [if_pos h]
      · rw [if_pos h]
        split <;> rfl
      · rw [if_neg h]
        split
        · rfl
        · split <;> rfl
    constructor
    · intro ho
      have ho := og _ _ ho
      simp only [OX10_goes, d1, dd, i1, i2, i3, i4, e1, e2, l1, l2, c1, cc, y71, y72, y41, y42, if_true, if_false, true_implies, false_implies, implies_true, not_true_eq_false, not_false_eq_true, and_true, true_and, and_self, or_true, true_or]
      exact ho
    · simp only [FX10_goes, gOut, dd, i1, i2, e1, e2, l1, l2, cc, y71, y41, if_true, if_false]
  · have dd : FX10_isDead (nI k) joins n = 0 := by rw [d2, if_neg h1, if_neg h2]
    have cc : FX10_canSend (nI x) (nI y) n = 1 := by rw [c2, if_neg h3, if_neg h4, if_pos h5]
    constructor
    · intro ⟨hq, ho⟩
      have ho := og _ _ ho
      simp only [OX10_goes, d1, dd, i1, i2, i3, i4, e1, e2, l1, l2, c1, cc, z10, hq, y71, y72, y41, y42, if_true, if_false, true_implies, false_implies, implies_true, not_true_eq_false, not_false_eq_true, and_true, true_and, and_self, or_true, true_or]
      exact ho
    · simp only [FX10_goes, gOut, dd, i1, i2, e1, e2, l1, l2, cc, z10, y71, y41, if_true, if_false]
