/-! PURE: joins, what comes out (GENERATED, wip/gen/p/41.py) -/
/-- a sending is over, or not -/
def tOut (s i x : Nat) (p : Int32) (f m : mF) : Int32 × mF × mF :=
  if m x = -1 then (0, f, m) else if m (x + 2) ≤ 0 then (let u := FX10_schedule (m x) (upd f 45 (nI (174 * s))) (upd m x (-1)); let v := FX10_meets (nI s) (nI i) (m x) p (u.2.2 (x + 3)) u.2.1 u.2.2; (0, u.2.1, v.2)) else (0, f, m)
def OtOut (s i x : Nat) (p : Int32) (f m : mF) : Prop :=
  ¬ m x = -1 → m (x + 2) ≤ 0 → OX10_schedule (m x) (upd f 45 (nI (174 * s))) (upd m x (-1)) ∧ (let u := FX10_schedule (m x) (upd f 45 (nI (174 * s))) (upd m x (-1)); OX10_meets (nI s) (nI i) (m x) p (u.2.2 (x + 3)) u.2.1 u.2.2)
def wOut (y c : Nat) (n : mF) : mF := upd (upd (upd (upd (upd n c (n (y + 8))) (y + 5) (n (y + 5) + 1)) (y + 6) (n (y + 6) - 1)) (y + 7) 0) (y + 8) 0
theorem p_over {k s i x : Nat} {joins f m : mF} {p : Int32} (hk : k < 4) (hs : s < 2) (hi : i < 2) (e1 : joins (2 * k) = nI (2 * s + i)) (hx : x < 500) : (OX10_comesOut_b1 (nI k) (nI x) p f joins m ↔ OtOut s i x p f m) ∧ FX10_comesOut_b1 (nI k) (nI x) p f joins m = tOut s i x p f m := by
  obtain ⟨i1, i2, i3, i4⟩ := jn_idx hk
  obtain ⟨-, s1, s3, s4⟩ := jn_link hs hi
  have a1 : (nI x + 0).toNatClampNeg = x := (ix (a := x) (k := 0) (by omega)).1
  have a2 : vp_in (nI x + 0) 532 := (ix (a := x) (k := 0) (by omega)).2
  have c1 : (nI x + 2).toNatClampNeg = x + 2 := (ix (a := x) (k := 2) (by omega)).1
  have c2 : vp_in (nI x + 2) 532 := (ix (a := x) (k := 2) (by omega)).2
  have d1 : (nI x + 3).toNatClampNeg = x + 3 := (ix (a := x) (k := 3) (by omega)).1
  have d2 : vp_in (nI x + 3) 532 := (ix (a := x) (k := 3) (by omega)).2
  have b1 : FX10_base (nI s) = nI (174 * s) := by rw [← s3]; exact s1
  rw [s3] at s4
  constructor
  · simp only [OX10_comesOut_b1, OtOut, i1, i3, e1, s3, s4, b1, a1, a2, c1, c2, d1, d2, if_true, if_false, true_implies, false_implies, implies_true, not_true_eq_false, not_false_eq_true, and_true, true_and, and_self, or_true, true_or]
  · simp only [FX10_comesOut_b1, tOut, i1, e1, s3, s4, b1, a1, c1, d1]
theorem p_outm {k s i r j x y a : Nat} {joins n f : mF} (hk : k < 4) (hs : s < 2) (hi : i < 2) (hr : r < 2) (hj : j < 2) (e1 : joins (2 * k) = nI (2 * s + i)) (e2 : joins (2 * k + 1) = nI (2 * r + j)) (hx : x < 500) (hy : y < 500) (ha : a < 96) (d : ∀ q, q < 10 → y + q ≠ 174 * r + a) (ea : n (y + 5) = nI a) : (OX10_comesOut (nI k) (nI x) (nI y) f joins n ↔ ((n (y + 6) - 1 = 0 → OX10_schedule (n (y + 4)) (upd f 45 (nI (174 * r))) (upd (wOut y (174 * r + a) n) (y + 4) (-1)) ∧ (let u := FX10_schedule (n (y + 4)) (upd f 45 (nI (174 * r))) (upd (wOut y (174 * r + a) n) (y + 4) (-1)); OtOut s i x (n (y + 4)) u.2.1 u.2.2)) ∧ (¬ n (y + 6) - 1 = 0 → OtOut s i x (n (y + 4)) f (wOut y (174 * r + a) n)))) ∧ FX10_comesOut (nI k) (nI x) (nI y) f joins n = if n (y + 6) - 1 = 0 then (let u := FX10_schedule (n (y + 4)) (upd f 45 (nI (174 * r))) (upd (wOut y (174 * r + a) n) (y + 4) (-1)); tOut s i x (n (y + 4)) u.2.1 u.2.2) else tOut s i x (n (y + 4)) f (wOut y (174 * r + a) n) := by
  obtain ⟨i1, i2, i3, i4⟩ := jn_idx hk
  obtain ⟨-, s2, -⟩ := jn_link hr hj
  obtain ⟨a1, a2⟩ := ix (a := 174 * r) (k := a) (by omega)
  have po := fun (p : Int32) (f m : mF) => p_over (p := p) (f := f) (m := m) hk hs hi e1 hx
  have y41 : (nI y + 4).toNatClampNeg = y + 4 := (ix (a := y) (k := 4) (by omega)).1
  have y42 : vp_in (nI y + 4) 532 := (ix (a := y) (k := 4) (by omega)).2
  have y51 : (nI y + 5).toNatClampNeg = y + 5 := (ix (a := y) (k := 5) (by omega)).1
  have y52 : vp_in (nI y + 5) 532 := (ix (a := y) (k := 5) (by omega)).2
  have y61 : (nI y + 6).toNatClampNeg = y + 6 := (ix (a := y) (k := 6) (by omega)).1
  have y62 : vp_in (nI y + 6) 532 := (ix (a := y) (k := 6) (by omega)).2
  have y71 : (nI y + 7).toNatClampNeg = y + 7 := (ix (a := y) (k := 7) (by omega)).1
  have y72 : vp_in (nI y + 7) 532 := (ix (a := y) (k := 7) (by omega)).2
  have y81 : (nI y + 8).toNatClampNeg = y + 8 := (ix (a := y) (k := 8) (by omega)).1
  have y82 : vp_in (nI y + 8) 532 := (ix (a := y) (k := 8) (by omega)).2
  have u5 : ∀ v, upd n (174 * r + a) v (y + 5) = nI a := fun v => (pk_un (d 5 (by decide))).trans ea
  have u6 : ∀ v v2, upd (upd n (174 * r + a) v) (y + 5) v2 (y + 6) = n (y + 6) := fun v v2 => (pk_un (by omega)).trans (pk_un (d 6 (by decide)))
  have u7 : ∀ v v2 v3 v4 v5, upd (upd (upd (upd (upd n (174 * r + a) v) (y + 5) v2) (y + 6) v3) (y + 7) v4) (y + 8) v5 (y + 6) = v3 := fun v v2 v3 v4 v5 => (pk_un (by omega)).trans ((pk_un (by omega)).trans pk_us)
  constructor
  · simp only [OX10_comesOut, wOut, i1, i2, i3, i4, e1, e2, s2, a1, a2, y41, y42, y51, y52, y61, y62, y71, y72, y81, y82, ea, u5, u6, u7, po, if_true, if_false, true_implies, false_implies, implies_true, not_true_eq_false, not_false_eq_true, and_true, true_and, and_self, or_true, true_or]
  · simp only [FX10_comesOut, wOut, i1, i2, e1, e2, s2, a1, y41, y51, y61, y71, y81, ea, u5, u6, u7, po]
