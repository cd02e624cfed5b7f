/-! PURE: what a line is made of, on both sides (GENERATED, wip/gen/p/77.py) -/
def NMS (nm : mF) (named : mFl) : Prop := ∀ k, k < 43 → WD (nm k) (named k)
/-- a FAULT found, the same on both sides -/
def RF (R f : mF) : Prop := ¬ R 9 = -1 ∧ R 9 = 8 * f 11 + f 10
/-- what no reading touches -/
def AX (f f' : mF) : Prop := ∀ k, (k = 4 ∨ 33 ≤ k) → k ≠ 36 → k ≠ 37 → f' k = f k
def AN (f f' : mF) : Prop := ∀ k, k ≠ 6 → k ≠ 7 → k ≠ 8 → k ≠ 9 → k ≠ 37 → f' k = f k
theorem AX_t {f g h : mF} (a : AX f g) (b : AX g h) : AX f h := fun k x y z => (b k x y z).trans (a k x y z)
theorem AX_F {f g : mF} (a : AF f g) : AX f g := fun k x y z => a k (by omega) (by omega) (by omega) (by omega)
theorem AX_N {f g : mF} (a : AN f g) : AX f g := fun k x y z => a k (by omega) (by omega) (by omega) (by omega) z
theorem AX_u {f g : mF} {j : Nat} {v : Int32} (a : AX f g) (hj : (j < 33 ∧ j ≠ 4) ∨ j = 36 ∨ j = 37) : AX f (upd g j v) := fun k x y z => (pk_un (by omega)).trans (a k x y z)
theorem AX_w {f g : mF} {j : Nat} {v : Int32} (a : AX (upd f j v) g) (hj : (j < 33 ∧ j ≠ 4) ∨ j = 36 ∨ j = 37) : AX f g := fun k x y z => (a k x y z).trans (pk_un (by omega))
theorem AX_r {f : mF} : AX f f := fun _ _ _ _ => rfl
theorem fail_e {R : mF} {x k : Int32} (h : R 9 = -1) : FX5_fail x k R = (0, upd R 9 (8 * x + k)) := if_pos h
theorem fail_f {R : mF} {x k : Int32} (h : ¬ R 9 = -1) : FX5_fail x k R = (0, R) := if_neg h
theorem bad_e {f : mF} {k : Int32} (h : ¬ f 8 = 1) : FX10_bad k f = (0, upd (upd f 10 k) 11 (f 7)) := if_neg h
theorem bad_1 {f : mF} : FX10_bad 1 f = (0, upd (upd f 10 1) 11 (f 7)) := by
  unfold FX10_bad
  split <;> rfl
theorem bad_z {f : mF} {k : Int32} : (FX10_bad k f).1 = 0 ∨ (FX10_bad k f).1 = 1 := by
  unfold FX10_bad
  split <;> exact Or.inl rfl
theorem RF_k {R f : mF} {x : Int32} {p k : Nat} (h : x = f 7) (e : f 7 = nI p) (hp : p ≤ 700) (hk : k ≤ 5) : RF (upd R 9 (8 * x + nI k)) (upd (upd f 10 (nI k)) 11 (f 7)) := by
  refine ⟨?_, ?_⟩
  · rw [pk_us, h, e, show (8 : Int32) * nI p = nI (8 * p) from nI_mul 8 p, nI_add]
    exact nI_nm1 (by omega)
  · rw [pk_us, pk_us, pk_un (by decide), pk_us, h]
theorem AX_b {f : mF} {a b : Int32} : AX f (upd (upd f 10 a) 11 b) := AX_u (AX_u AX_r (Or.inl (by decide))) (Or.inl (by decide))
section BSC
variable {R f tp tr nm un up us asP asB : mF} {fl named asked : mFl} {S lo : Nat}
theorem l_name (hN : NMS nm named) (h2 : R 5 = 2) (hf : f 8 = 2) (hw : WD (R 8) (fl 12)) : ∀ (m i fuel fuel' : Nat), i + m = 43 → m < fuel → m < fuel' → OX5_name_b1 fuel (nI i) R nm ∧ OX10_nameHere_b1 fuel' (nI i) f fl named ∧ FX10_nameHere_b1 fuel' (nI i) f fl named = FX5_name_b1 fuel (nI i) R nm ∧ (FX5_name_b1 fuel (nI i) R nm = -1 ∨ ∃ k : Nat, k < 43 ∧ FX5_name_b1 fuel (nI i) R nm = nI k)
  | _, _, 0, _, _, h, _ => absurd h (Nat.not_lt_zero _)
  | _, _, _ + 1, 0, _, _, h => absurd h (Nat.not_lt_zero _)
  | 0, i, fuel + 1, fuel' + 1, h, _, _ => by
    have c : (43 : Int32) ≤ nI i := nI_le (show 43 ≤ i by omega) (by omega)
    rw [OX5_name_b1, OX10_nameHere_b1, FX5_name_b1, FX10_nameHere_b1, if_pos c, if_pos c]
    exact ⟨⟨fun _ => trivial, fun z => absurd c z⟩, ⟨fun _ => trivial, fun z => absurd c z⟩, rfl, Or.inl rfl⟩
  | m + 1, i, fuel + 1, fuel' + 1, h, _, _ => by
    have c : ¬ (43 : Int32) ≤ nI i := nI_ge (show i < 43 by omega) (by decide)
    have ci : (nI i).toNatClampNeg = i := nI_clamp (by omega)
    have vi : vp_in (nI i) 43 := vp_in_nI (by omega) (by decide)
    obtain ⟨i1, i2, i3, i4⟩ := l_name hN h2 hf hw m (i + 1) fuel fuel' (by omega) (by omega) (by omega)
    have e := WD_c (hN i (by omega)) hw
    rw [OX5_name_b1, OX10_nameHere_b1, FX5_name_b1, FX10_nameHere_b1, if_neg c, if_neg c, if_pos h2, if_pos hf, ci, nI_1]
    by_cases q : nm i = R 8
    · have q' := e.mp q
      rw [if_pos q, if_pos q']
      exact ⟨⟨fun z => absurd z c, fun _ => ⟨fun _ => ⟨vi, fun _ => trivial, fun z => absurd q z⟩, fun z => absurd h2 z⟩⟩, ⟨fun z => absurd z c, fun _ => ⟨fun _ => ⟨vi, fun _ => trivial, fun z => absurd q' z⟩, fun z => absurd hf z⟩⟩, rfl, Or.inr ⟨i, by omega, rfl⟩⟩
    · have q' : ¬ lg_cmp (named i) (fl 12) = 0 := fun z => q (e.mpr z)
      rw [if_neg q, if_neg q']
      exact ⟨⟨fun z => absurd z c, fun _ => ⟨fun _ => ⟨vi, fun z => absurd z q, fun _ => i1⟩, fun z => absurd h2 z⟩⟩, ⟨fun z => absurd z c, fun _ => ⟨fun _ => ⟨vi, fun z => absurd z q', fun _ => i2⟩, fun z => absurd hf z⟩⟩, i3, i4⟩
theorem TK_2 (h : TK S lo R f fl) : (R 5 = 2 ∧ f 8 = 2 ∧ WD (R 8) (fl 12) ∧ ∃ q : Nat, lo < q ∧ q ≤ S ∧ R 7 = nI q ∧ f 6 = nI q) ∨ (¬ R 5 = 2 ∧ ¬ f 8 = 2) := by
  obtain ⟨-, -, -, ⟨a, b⟩ | ⟨d, ⟨a, b⟩ | ⟨a, b, c⟩ | ⟨a, b, c⟩ | ⟨s, hs, a, b, c⟩⟩⟩ := h
  · rw [a, b]; exact Or.inr ⟨by decide, by decide⟩
  · rw [a, b]; exact Or.inr ⟨by decide, by decide⟩
  · exact Or.inl ⟨a, b, c, d⟩
  · rw [a, b]; exact Or.inr ⟨by decide, by decide⟩
  · rw [a, b]
    rcases hs with rfl | rfl <;> exact Or.inr ⟨by decide, by decide⟩
theorem TK_3 (h : TK S lo R f fl) : (R 5 = 3 ∧ f 8 = 3 ∧ R 8 = f 9 ∧ ∃ q : Nat, lo < q ∧ q ≤ S ∧ R 7 = nI q ∧ f 6 = nI q) ∨ (¬ R 5 = 3 ∧ ¬ f 8 = 3) := by
  obtain ⟨-, -, -, ⟨a, b⟩ | ⟨d, ⟨a, b⟩ | ⟨a, b, c⟩ | ⟨a, b, c⟩ | ⟨s, hs, a, b, c⟩⟩⟩ := h
  · rw [a, b]; exact Or.inr ⟨by decide, by decide⟩
  · rw [a, b]; exact Or.inr ⟨by decide, by decide⟩
  · rw [a, b]; exact Or.inr ⟨by decide, by decide⟩
  · exact Or.inl ⟨a, b, c, d⟩
  · rw [a, b]
    rcases hs with rfl | rfl <;> exact Or.inr ⟨by decide, by decide⟩
theorem TK_s {x : Int32} (hx : x = 59 ∨ x = 58) (h : TK S lo R f fl) : (R 5 = x ∧ ¬ FX10_isSign x f = 0 ∧ ∃ q : Nat, lo < q ∧ q ≤ S ∧ R 7 = nI q ∧ f 6 = nI q) ∨ (¬ R 5 = x ∧ FX10_isSign x f = 0) := by
  have x0 : ¬ (0 : Int32) = x := by rcases hx with rfl | rfl <;> decide
  have x1 : ¬ (1 : Int32) = x := by rcases hx with rfl | rfl <;> decide
  have x2 : ¬ (2 : Int32) = x := by rcases hx with rfl | rfl <;> decide
  have x3 : ¬ (3 : Int32) = x := by rcases hx with rfl | rfl <;> decide
  obtain ⟨-, -, -, ⟨a, b⟩ | ⟨d, ⟨a, b⟩ | ⟨a, b, c⟩ | ⟨a, b, c⟩ | ⟨s, hs, a, b, c⟩⟩⟩ := h
  · exact Or.inr ⟨by rw [a]; exact x0, if_neg (by rw [b]; decide)⟩
  · exact Or.inr ⟨by rw [a]; exact x1, if_neg (by rw [b]; decide)⟩
  · exact Or.inr ⟨by rw [a]; exact x2, if_neg (by rw [b]; decide)⟩
  · exact Or.inr ⟨by rw [a]; exact x3, if_neg (by rw [b]; decide)⟩
  · by_cases e : s = x
    · refine Or.inl ⟨a.trans e, ?_, d⟩
      unfold FX10_isSign
      rw [if_pos b, if_pos (c.trans e)]
      decide
    · refine Or.inr ⟨by rw [a]; exact e, ?_⟩
      unfold FX10_isSign
      rw [if_pos b, if_neg (by rw [c]; exact e)]
theorem p_name (hN : NMS nm named) (h : TK S lo R f fl) : OX5_name R nm ∧ OX10_nameHere f fl named ∧ FX10_nameHere f fl named = FX5_name R nm ∧ (FX5_name R nm = -1 ∨ ∃ k : Nat, k < 43 ∧ FX5_name R nm = nI k ∧ R 5 = 2 ∧ f 8 = 2) := by
  rcases TK_2 h with ⟨a, b, c, -⟩ | ⟨a, b⟩
  · obtain ⟨i1, i2, i3, i4⟩ := l_name hN a b c 43 0 10000 10000 (by decide) (by decide) (by decide)
    refine ⟨i1, i2, i3, i4.imp_right fun ⟨k, hk, e⟩ => ⟨k, hk, e, a, b⟩⟩
  · have c : ¬ (43 : Int32) ≤ 0 := by decide
    have e1 : FX5_name R nm = -1 := by
      show FX5_name_b1 (9999 + 1) 0 R nm = -1
      rw [FX5_name_b1, if_neg c, if_neg a]
    have e2 : FX10_nameHere f fl named = -1 := by
      show FX10_nameHere_b1 (9999 + 1) 0 f fl named = -1
      rw [FX10_nameHere_b1, if_neg c, if_neg b]
    exact ⟨⟨fun z => absurd z c, fun _ => ⟨fun z => absurd z a, fun _ => trivial⟩⟩, ⟨fun z => absurd z c, fun _ => ⟨fun z => absurd z b, fun _ => trivial⟩⟩, e2.trans e1.symm, Or.inl e1⟩
theorem p_number (a b : Int32) (hT : TP tp tr) (hS : S ≤ 700) (h : TK S lo R f fl) (h9 : R 9 = -1) : OX5_takeNumber a b tp R ∧ OX10_reads a b f fl tr ∧ ((∃ (v : Int32) (R' f' : mF) (fl' : mFl), FX5_takeNumber a b tp R = (v, R') ∧ FX10_reads a b f fl tr = (1, f', fl') ∧ TK S lo R' f' fl' ∧ AR R R' ∧ AN f f' ∧ f' 37 = v ∧ ¬ v < a ∧ ¬ b < v ∧ R 8 = v ∧ f 9 = v ∧ f 8 = 3) ∨ ∃ R' f' : mF, FX5_takeNumber a b tp R = (a, R') ∧ FX10_reads a b f fl tr = (0, f', fl) ∧ RF R' f' ∧ AX f f') := by
  have z10 : ¬ (1 : Int32) = 0 := by decide
  obtain ⟨h2, h5, ⟨hp, p, p1, p2⟩, -⟩ := id h
  unfold OX5_takeNumber OX10_reads FX5_takeNumber FX10_reads
  rcases TK_3 h with ⟨k1, k2, k3, q, q1, q2, q3, q4⟩ | ⟨k1, k2⟩
  · rw [if_pos k1, if_pos k2, ← k3]
    have n1 : ¬ f 8 = 1 := by rw [k2]; decide
    have rf3 := RF_k (R := R) (k := 3) hp p2 (by omega) (by decide)
    have f9 : ¬ upd R 9 (8 * R 6 + 3) 9 = -1 := rf3.1
    by_cases c1 : R 8 < a
    · have e0 : FX10_isIn (R 8) a b = 0 := if_pos c1
      rw [if_pos c1, fail_e h9, e0, bad_e n1]
      dsimp only
      rw [if_neg f9]
      exact ⟨⟨fun _ => ⟨fun _ => ⟨fun z => absurd z f9, fun _ => trivial⟩, fun z => absurd c1 z⟩, fun z => absurd k1 z⟩, ⟨fun _ => ⟨fun _ => Or.inl rfl, fun z => absurd rfl z⟩, fun z => absurd k2 z⟩, Or.inr ⟨_, _, rfl, rfl, rf3, AX_b⟩⟩
    · rw [if_neg c1]
      by_cases c2 : R 8 ≤ b
      · have c3 : ¬ b < R 8 := Int32.not_lt.mpr c2
        have e0 : FX10_isIn (R 8) a b = 1 := (if_neg c1).trans (if_neg c3)
        obtain ⟨s1, s2, R', f', fl', s3, s4, s5, s6, s7⟩ := p_scan (R := R) (f := upd f 37 (R 8)) (fl := fl) hT hS h2 ((pk_un (by decide)).trans h5) q2 q3 ((pk_un (by decide)).trans q4)
        rw [if_pos c2, if_pos h9, s3, e0, s4]
        refine ⟨⟨fun _ => ⟨fun z => absurd z c1, fun _ => ⟨fun _ => ⟨fun _ => s1, fun z => absurd h9 z⟩, fun z => absurd c2 z⟩⟩, fun z => absurd k1 z⟩, ⟨fun _ => ⟨fun z => absurd z z10, fun _ => s2⟩, fun z => absurd k2 z⟩, Or.inl ⟨R 8, R', f', fl', rfl, rfl, TK_lo s5 (by omega), s6, fun k a1 a2 a3 a4 a5 => (s7 k a1 a2 a3 a4).trans (pk_un a5), (s7 37 (by decide) (by decide) (by decide) (by decide)).trans pk_us, c1, c3, rfl, rfl, k2⟩⟩
      · have c3 : b < R 8 := Int32.not_le.mp c2
        have e0 : FX10_isIn (R 8) a b = 0 := (if_neg c1).trans (if_pos c3)
        rw [if_neg c2, fail_e h9, e0, bad_e n1]
        dsimp only
        rw [if_neg f9]
        exact ⟨⟨fun _ => ⟨fun z => absurd z c1, fun _ => ⟨fun z => absurd z c2, fun _ => ⟨fun z => absurd z f9, fun _ => trivial⟩⟩⟩, fun z => absurd k1 z⟩, ⟨fun _ => ⟨fun _ => Or.inl rfl, fun z => absurd rfl z⟩, fun z => absurd k2 z⟩, Or.inr ⟨_, _, rfl, rfl, rf3, AX_b⟩⟩
  · have rf1 := RF_k (R := R) (k := 1) hp p2 (by omega) (by decide)
    have f9 : ¬ upd R 9 (8 * R 6 + 1) 9 = -1 := rf1.1
    rw [if_neg k1, if_neg k2, fail_e (x := R 6) (k := 1) h9, bad_1]
    dsimp only
    rw [if_neg f9]
    exact ⟨⟨fun z => absurd z k1, fun _ => ⟨fun z => absurd z f9, fun _ => trivial⟩⟩, ⟨fun z => absurd z k2, fun _ => Or.inl rfl⟩, Or.inr ⟨_, _, rfl, rfl, rf1, AX_b⟩⟩
theorem ft_number (a b : Int32) (h9 : ¬ R 9 = -1) : OX5_takeNumber a b tp R ∧ FX5_takeNumber a b tp R = (a, R) := by
  unfold OX5_takeNumber FX5_takeNumber
  rw [fail_f h9, fail_f h9]
  dsimp only
  rw [if_neg h9]
  refine ⟨⟨fun _ => ⟨fun _ => ⟨fun z => absurd z h9, fun _ => trivial⟩, fun _ => ⟨fun _ => ⟨fun z => absurd z h9, fun _ => trivial⟩, fun _ => ⟨fun z => absurd z h9, fun _ => trivial⟩⟩⟩, fun _ => ⟨fun z => absurd z h9, fun _ => trivial⟩⟩, ?_⟩
  split
  · split
    · rfl
    · split <;> rfl
  · rfl
theorem p_sign (x : Int32) (hx : x = 59 ∨ x = 58) (hT : TP tp tr) (hS : S ≤ 700) (h : TK S lo R f fl) (h9 : R 9 = -1) : OX5_takeSign x tp R ∧ ((¬ FX10_isSign x f = 0 ∧ OX10_go f fl tr ∧ ∃ (R' f' : mF) (fl' : mFl), FX5_takeSign x tp R = (0, R') ∧ FX10_go f fl tr = (0, f', fl') ∧ TK S (lo + 1) R' f' fl' ∧ AR R R' ∧ AF f f') ∨ (FX10_isSign x f = 0 ∧ ∃ R' f' : mF, FX5_takeSign x tp R = (0, R') ∧ FX10_bad 1 f = (0, f') ∧ RF R' f' ∧ AX f f')) := by
  obtain ⟨h2, h5, ⟨hp, p, p1, p2⟩, -⟩ := id h
  unfold OX5_takeSign FX5_takeSign
  rcases TK_s hx h with ⟨k1, k2, q, q1, q2, q3, q4⟩ | ⟨k1, k2⟩
  · obtain ⟨s1, s2, R', f', fl', s3, s4, s5, s6, s7⟩ := p_scan (R := R) (f := f) (fl := fl) hT hS h2 h5 q2 q3 q4
    rw [if_pos k1, if_pos h9, s3]
    exact ⟨⟨fun _ => ⟨fun _ => s1, fun z => absurd h9 z⟩, fun z => absurd k1 z⟩, Or.inl ⟨k2, s2, R', f', fl', rfl, s4, TK_lo s5 (by omega), s6, s7⟩⟩
  · have rf1 := RF_k (R := R) (k := 1) hp p2 (by omega) (by decide)
    have f9 : ¬ upd R 9 (8 * R 6 + 1) 9 = -1 := rf1.1
    rw [if_neg k1, fail_e h9, bad_1]
    dsimp only
    rw [if_neg f9]
    exact ⟨⟨fun z => absurd z k1, fun _ => ⟨fun z => absurd z f9, fun _ => trivial⟩⟩, Or.inr ⟨k2, _, _, rfl, rfl, rf1, AX_b⟩⟩
theorem ft_sign (x : Int32) (h9 : ¬ R 9 = -1) : OX5_takeSign x tp R ∧ FX5_takeSign x tp R = (0, R) := by
  unfold OX5_takeSign FX5_takeSign
  rw [fail_f h9]
  dsimp only
  rw [if_neg h9]
  refine ⟨⟨fun _ => ⟨fun z => absurd z h9, fun _ => trivial⟩, fun _ => ⟨fun z => absurd z h9, fun _ => trivial⟩⟩, ?_⟩
  split <;> rfl
theorem p_use (whose : Int32) {U : Nat} (hN : NMS nm named) (hT : TP tp tr) (hS : S ≤ 700) (h : TK S lo R f fl) (h9 : R 9 = -1) (h10 : R 10 = nI U) (h32 : f 32 = nI U) (hU : U < 112) : OX5_takeUse whose tp R nm un up us ∧ OX10_readsLabel whose f fl named tr asked asP asB ∧ ((∃ (R' f' : mF) (fl' : mFl), FX5_takeUse whose tp R nm un up us = (0, R', upd un U (R 8), upd up U (R 6), upd us U whose) ∧ FX10_readsLabel whose f fl named tr asked asP asB = (1, f', fl', vp_updL asked U (fl 12), upd asP U (f 7), upd asB U whose) ∧ TK S lo R' f' fl' ∧ AR (upd R 10 (nI (U + 1))) R' ∧ AF (upd f 32 (nI (U + 1))) f' ∧ WD (R 8) (fl 12) ∧ R 6 = f 7 ∧ ∃ p : Nat, p ≤ S ∧ f 7 = nI p) ∨ ∃ R' f' : mF, FX5_takeUse whose tp R nm un up us = (0, R', un, up, us) ∧ FX10_readsLabel whose f fl named tr asked asP asB = (0, f', fl, asked, asP, asB) ∧ RF R' f' ∧ AX f f') := by
  obtain ⟨h2, h5, ⟨hp, p, p1, p2⟩, -⟩ := id h
  obtain ⟨n1, n2, n3, n4⟩ := p_name hN h
  have rf1 := RF_k (R := R) (k := 1) hp p2 (by omega) (by decide)
  have f9 : ¬ upd R 9 (8 * R 6 + 1) 9 = -1 := rf1.1
  have ob : OX5_takeUse_b1 whose tp R nm un up us := by
    unfold OX5_takeUse_b1
    rw [fail_e h9]
    exact ⟨fun z => absurd z f9, fun _ => trivial⟩
  have fb : FX5_takeUse_b1 whose tp R nm un up us = (0, upd R 9 (8 * R 6 + 1), un, up, us) := by
    unfold FX5_takeUse_b1
    rw [fail_e h9]
    dsimp only
    rw [if_neg f9]
  unfold OX5_takeUse OX10_readsLabel FX5_takeUse FX10_readsLabel
  rcases TK_2 h with ⟨k1, k2, k3, q, q1, q2, q3, q4⟩ | ⟨k1, k2⟩
  · rw [if_pos k1, if_pos k2, n3]
    dsimp only
    by_cases c : FX5_name R nm = -1
    · have c2 : ¬ (112 : Int32) ≤ nI U := nI_ge hU (by decide)
      have vi : vp_in (nI U) 112 := vp_in_nI hU (by decide)
      have cU : (nI U).toNatClampNeg = U := nI_clamp (by omega)
      obtain ⟨s1, s2, R', f', fl', s3, s4, s5, s6, s7⟩ := p_scan (R := upd R 10 (nI (U + 1))) (f := upd f 32 (nI (U + 1))) (fl := fl) hT hS ((pk_un (by decide)).trans h2) ((pk_un (by decide)).trans h5) q2 ((pk_un (by decide)).trans q3) ((pk_un (by decide)).trans q4)
      rw [if_pos c, if_pos c, if_pos h9, h10, h32, if_neg c2, cU, nI_1, s3, s4]
      exact ⟨⟨fun _ => ⟨n1, fun _ => ⟨fun _ => ⟨fun z => absurd z c2, fun _ => ⟨vi, vi, vi, s1⟩⟩, fun z => absurd h9 z⟩, fun z => absurd c z⟩, fun z => absurd k1 z⟩, ⟨fun _ => ⟨n2, fun _ => ⟨vi, vi, vi, s2⟩, fun z => absurd c z⟩, fun z => absurd k2 z⟩, Or.inl ⟨R', f', fl', rfl, rfl, TK_lo s5 (by omega), s6, s7, k3, hp, p, p1, p2⟩⟩
    · rw [if_neg c, if_neg c, fb, bad_1]
      exact ⟨⟨fun _ => ⟨n1, fun z => absurd z c, fun _ => ob⟩, fun z => absurd k1 z⟩, ⟨fun _ => ⟨n2, fun z => absurd z c, fun _ => Or.inl rfl⟩, fun z => absurd k2 z⟩, Or.inr ⟨_, _, rfl, rfl, rf1, AX_b⟩⟩
  · rw [if_neg k1, if_neg k2, fb, bad_1]
    exact ⟨⟨fun z => absurd z k1, fun _ => ob⟩, ⟨fun z => absurd z k2, fun _ => Or.inl rfl⟩, Or.inr ⟨_, _, rfl, rfl, rf1, AX_b⟩⟩
theorem o_name : OX5_name R nm := by
  have key : ∀ (m i fuel : Nat), i + m = 43 → m < fuel → OX5_name_b1 fuel (nI i) R nm := by
    intro m
    induction m with
    | zero =>
      intro i fuel h hf
      obtain ⟨fuel, rfl⟩ : ∃ k, fuel = k + 1 := ⟨fuel - 1, by omega⟩
      have c : (43 : Int32) ≤ nI i := nI_le (show 43 ≤ i by omega) (by omega)
      rw [OX5_name_b1]
      exact ⟨fun _ => trivial, fun z => absurd c z⟩
    | succ m ih =>
      intro i fuel h hf
      obtain ⟨fuel, rfl⟩ : ∃ k, fuel = k + 1 := ⟨fuel - 1, by omega⟩
      have vi : vp_in (nI i) 43 := vp_in_nI (by omega) (by decide)
      rw [OX5_name_b1, nI_1]
      exact ⟨fun _ => trivial, fun _ => ⟨fun _ => ⟨vi, fun _ => trivial, fun _ => ih (i + 1) fuel (by omega) (by omega)⟩, fun _ => trivial⟩⟩
  exact key 43 0 10000 (by decide) (by decide)
theorem ft_use (whose : Int32) (h9 : ¬ R 9 = -1) : OX5_takeUse whose tp R nm un up us ∧ FX5_takeUse whose tp R nm un up us = (0, R, un, up, us) := by
  have ob : OX5_takeUse_b1 whose tp R nm un up us := by
    unfold OX5_takeUse_b1
    rw [fail_f h9]
    exact ⟨fun z => absurd z h9, fun _ => trivial⟩
  have fb : FX5_takeUse_b1 whose tp R nm un up us = (0, R, un, up, us) := by
    unfold FX5_takeUse_b1
    rw [fail_f h9]
    dsimp only
    rw [if_neg h9]
  unfold OX5_takeUse FX5_takeUse
  rw [fb, if_neg h9]
  refine ⟨⟨fun _ => ⟨o_name, fun _ => ⟨fun z => absurd z h9, fun _ => trivial⟩, fun _ => ob⟩, fun _ => ob⟩, ?_⟩
  split
  · dsimp only
    split <;> rfl
  · rfl
end BSC
