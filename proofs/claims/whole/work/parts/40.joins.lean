/-! PURE: joins (GENERATED, wip/gen/p/40.py) -/
/-- the joins of a program on both sides -/
def RJn (prg sndr slnk rcvr rlnk f joins : mF) : Prop := ∃ J : Nat, J ≤ 4 ∧ prg 7 = nI J ∧ f 35 = nI J ∧ (∀ k, k < J → ∃ s i r j : Nat, s < 2 ∧ i < 2 ∧ r < 2 ∧ j < 2 ∧ sndr k = nI s ∧ slnk k = nI i ∧ rcvr k = nI r ∧ rlnk k = nI j ∧ joins (2 * k) = nI (2 * s + i) ∧ joins (2 * k + 1) = nI (2 * r + j)) ∧ ∀ k k', k < J → k' < J → k ≠ k' → joins (2 * k) ≠ joins (2 * k') ∧ joins (2 * k + 1) ≠ joins (2 * k' + 1)
theorem jn_link {s i : Nat} (hs : s < 2) (hi : i < 2) : FX10_linkOf (nI (2 * s + i)) = nI (174 * s + 154 + 10 * i) ∧ FX10_base (nI (2 * s + i) / 2) = nI (174 * s) ∧ nI (2 * s + i) / 2 = nI s ∧ nI (2 * s + i) - nI (2 * s + i) / 2 * 2 = nI i := by
  rcases (show s = 0 ∨ s = 1 by omega) with rfl | rfl <;> rcases (show i = 0 ∨ i = 1 by omega) with rfl | rfl <;> decide +kernel
theorem jn_idx {k : Nat} (hk : k < 4) : (2 * nI k).toNatClampNeg = 2 * k ∧ (2 * nI k + 1).toNatClampNeg = 2 * k + 1 ∧ vp_in (2 * nI k) 8 ∧ vp_in (2 * nI k + 1) 8 := by
  have e : (2 : Int32) * nI k = nI (2 * k) := by
    rcases (show k = 0 ∨ k = 1 ∨ k = 2 ∨ k = 3 by omega) with rfl | rfl | rfl | rfl <;> decide +kernel
  rw [e, nI_1]
  exact ⟨nI_clamp (by omega), nI_clamp (by omega), vp_in_nI (by omega) (by decide), vp_in_nI (by omega) (by decide)⟩
theorem ix {a k : Nat} (h : a + k < 532) : (nI a + nI k).toNatClampNeg = a + k ∧ vp_in (nI a + nI k) 532 := by
  rw [nI_add]
  exact ⟨nI_clamp (by omega), vp_in_nI h (by decide)⟩
theorem p_dead {k s i r j : Nat} {joins n : mF} (hk : k < 4) (hs : s < 2) (hi : i < 2) (hr : r < 2) (hj : j < 2) (e1 : joins (2 * k) = nI (2 * s + i)) (e2 : joins (2 * k + 1) = nI (2 * r + j)) : OX10_isDead (nI k) joins n ∧ FX10_isDead (nI k) joins n = if n (174 * s + 97) = 1 then 1 else if n (174 * r + 97) = 1 then 1 else 0 := by
  obtain ⟨i1, i2, i3, i4⟩ := jn_idx hk
  obtain ⟨-, s1, -⟩ := jn_link hs hi
  obtain ⟨-, s2, -⟩ := jn_link hr hj
  obtain ⟨x1, x2⟩ := ix (a := 174 * s) (k := 97) (by omega)
  obtain ⟨y1, y2⟩ := ix (a := 174 * r) (k := 97) (by omega)
  have x1 : (nI (174 * s) + 97).toNatClampNeg = 174 * s + 97 := x1
  have x2 : vp_in (nI (174 * s) + 97) 532 := x2
  have y1 : (nI (174 * r) + 97).toNatClampNeg = 174 * r + 97 := y1
  have y2 : vp_in (nI (174 * r) + 97) 532 := y2
  constructor
  · simp only [OX10_isDead, i1, i2, i3, i4, e1, e2, s1, s2, x2, y2, if_true, if_false, true_implies, false_implies, implies_true, not_true_eq_false, not_false_eq_true, and_true, true_and, and_self, or_true, true_or]
  · simp only [FX10_isDead, i1, i2, e1, e2, s1, s2, x1, y1]
theorem p_canSend {x y : Nat} {n : mF} (hx : x < 500) (hy : y < 500) : OX10_canSend (nI x) (nI y) n ∧ FX10_canSend (nI x) (nI y) n = if n x = -1 then 0 else if n (x + 2) ≤ 0 then 0 else if n (y + 7) = 0 then 1 else 0 := by
  obtain ⟨a1, a2⟩ := ix (a := x) (k := 0) (by omega)
  obtain ⟨b1, b2⟩ := ix (a := x) (k := 2) (by omega)
  obtain ⟨c1, c2⟩ := ix (a := y) (k := 7) (by omega)
  have a1 : (nI x + 0).toNatClampNeg = x := a1
  have a2 : vp_in (nI x + 0) 532 := a2
  have b1 : (nI x + 2).toNatClampNeg = x + 2 := b1
  have b2 : vp_in (nI x + 2) 532 := b2
  have c1 : (nI y + 7).toNatClampNeg = y + 7 := c1
  have c2 : vp_in (nI y + 7) 532 := c2
  constructor
  · simp only [OX10_canSend, a1, a2, b1, b2, c2, if_true, if_false, true_implies, false_implies, implies_true, not_true_eq_false, not_false_eq_true, and_true, true_and, and_self, or_true, true_or]
  · simp only [FX10_canSend, a1, b1, c1]
/-- what is told to who waits for the buffer -/
def tIn (p : Int32) (F now : mF) : Int32 × mF × mF :=
  let u21 := FX10_at ((p / 2) - 3) F now; if u21.1 = (-2) then (let u24 := FX10_lay ((p / 2) - 3) (-4) u21.2 now; if u21.1 = (-3) then (let u27 := FX10_wakes p u24.2.1 u24.2.2; (0, u27.2.1, u27.2.2)) else ((0, u24.2.1, u24.2.2))) else (if u21.1 = (-3) then (let u32 := FX10_lay ((p / 2) - 3) (-4) u21.2 now; if u21.1 = (-3) then (let u35 := FX10_wakes p u32.2.1 u32.2.2; (0, u35.2.1, u35.2.2)) else ((0, u32.2.1, u32.2.2))) else (if u21.1 = (-3) then (let u40 := FX10_wakes p u21.2 now; (0, u40.2.1, u40.2.2)) else ((0, u21.2, now))))
def OtIn (p : Int32) (F now : mF) : Prop :=
  OX10_at ((p / 2) - 3) F now ∧ (let u21 := FX10_at ((p / 2) - 3) F now; (u21.1 = (-2) → (OX10_lay ((p / 2) - 3) (-4) u21.2 now ∧ (let u24 := FX10_lay ((p / 2) - 3) (-4) u21.2 now; (u21.1 = (-3) → (OX10_wakes p u24.2.1 u24.2.2)) ∧ (¬ (u21.1 = (-3)) → True)))) ∧ (¬ (u21.1 = (-2)) → ((u21.1 = (-3) → (OX10_lay ((p / 2) - 3) (-4) u21.2 now ∧ (let u32 := FX10_lay ((p / 2) - 3) (-4) u21.2 now; (u21.1 = (-3) → (OX10_wakes p u32.2.1 u32.2.2)) ∧ (¬ (u21.1 = (-3)) → True)))) ∧ (¬ (u21.1 = (-3)) → ((u21.1 = (-3) → (OX10_wakes p u21.2 now)) ∧ (¬ (u21.1 = (-3)) → True))))))
def wIn (x y c : Nat) (n : mF) : mF := upd (upd (upd (upd (upd n (y + 8) (n c)) (x + 1) (n (x + 1) + 1)) (x + 2) (n (x + 2) - 1)) (y + 7) 1) (y + 9) (-1)
theorem p_in {k s i r j x y a : Nat} {joins n f : mF} (hk : k < 4) (hs : s < 2) (hi : i < 2) (hr : r < 2) (hj : j < 2) (e1 : joins (2 * k) = nI (2 * s + i)) (e2 : joins (2 * k + 1) = nI (2 * r + j)) (hx : x < 500) (hy : y < 500) (d1 : y + 8 ≠ x + 1) (d2 : y + 8 ≠ x + 2) (d3 : y + 9 ≠ x + 1) (d4 : y + 9 ≠ x + 2) (ha : a < 96) (ea : n (x + 1) = nI a) : (OX10_comesIn (nI k) (nI x) (nI y) f joins n ↔ (¬ n (y + 9) = -1 → OtIn (n (y + 9)) (upd f 45 (nI (174 * r))) (wIn x y (174 * s + a) n))) ∧ FX10_comesIn (nI k) (nI x) (nI y) f joins n = if n (y + 9) = -1 then (0, f, wIn x y (174 * s + a) n) else tIn (n (y + 9)) (upd f 45 (nI (174 * r))) (wIn x y (174 * s + a) n) := by
  obtain ⟨i1, i2, i3, i4⟩ := jn_idx hk
  obtain ⟨-, s1, -⟩ := jn_link hs hi
  obtain ⟨-, s2, -⟩ := jn_link hr hj
  obtain ⟨a1, a2⟩ := ix (a := 174 * s) (k := a) (by omega)
  have b1 : (nI x + 1).toNatClampNeg = x + 1 := (ix (a := x) (k := 1) (by omega)).1
  have b2 : vp_in (nI x + 1) 532 := (ix (a := x) (k := 1) (by omega)).2
  have c1 : (nI x + 2).toNatClampNeg = x + 2 := (ix (a := x) (k := 2) (by omega)).1
  have c2 : vp_in (nI x + 2) 532 := (ix (a := x) (k := 2) (by omega)).2
  have y71 : (nI y + 7).toNatClampNeg = y + 7 := (ix (a := y) (k := 7) (by omega)).1
  have y72 : vp_in (nI y + 7) 532 := (ix (a := y) (k := 7) (by omega)).2
  have y81 : (nI y + 8).toNatClampNeg = y + 8 := (ix (a := y) (k := 8) (by omega)).1
  have y82 : vp_in (nI y + 8) 532 := (ix (a := y) (k := 8) (by omega)).2
  have y91 : (nI y + 9).toNatClampNeg = y + 9 := (ix (a := y) (k := 9) (by omega)).1
  have y92 : vp_in (nI y + 9) 532 := (ix (a := y) (k := 9) (by omega)).2
  have u1 : ∀ v, upd n (y + 8) v (x + 1) = nI a := fun v => (pk_un d1.symm).trans ea
  have u2 : ∀ v v2, upd (upd n (y + 8) v) (x + 1) v2 (x + 2) = n (x + 2) := fun v v2 => (pk_un (by omega)).trans (pk_un d2.symm)
  have u9 : ∀ v v2 v3 v4, upd (upd (upd (upd n (y + 8) v) (x + 1) v2) (x + 2) v3) (y + 7) v4 (y + 9) = n (y + 9) := fun v v2 v3 v4 => (pk_un (by omega)).trans ((pk_un d4).trans ((pk_un d3).trans (pk_un (by omega))))
  constructor
  · simp only [OX10_comesIn, OtIn, wIn, i1, i2, i3, i4, e1, e2, s1, s2, a1, a2, b1, b2, c1, c2, y71, y72, y81, y82, y91, y92, ea, u1, u2, u9, if_true, if_false, true_implies, false_implies, implies_true, not_true_eq_false, not_false_eq_true, and_true, true_and, and_self, or_true, true_or]
  · simp only [FX10_comesIn, tIn, wIn, i1, i2, e1, e2, s1, s2, a1, b1, c1, y71, y81, y91, ea, u1, u2, u9]
