/-! PURE: the tape, typed and cut on both sides (GENERATED, wip/gen/p/73.py) -/
/-- a BYTE, as the class keeps it and as the reference keeps it -/
def BY (a b : Int32) : Prop := ∃ n : Nat, n < 256 ∧ b = nI n ∧ a.toInt = if n < 128 then (n : Int) else (n : Int) - 256
def TP (tp tr : mF) : Prop := ∀ k, k < 700 → BY (tp k) (tr k)
theorem BY_sh {y s : Int32} {k : Nat} (hs : ((s &&& 31).toBitVec.smod 32).toNat = k) (hu : ((s.toUInt32 &&& Int32.toUInt32 31).toBitVec % 32).toNat = k) (hk : k = 24 ∨ k = 16 ∨ k = 8 ∨ k = 0) : BY (mNr 21 ((y >>> (s &&& 31)).toInt8.toInt32)) ((((y).toUInt32 >>> ((s).toUInt32 &&& Int32.toUInt32 31)).toInt32) &&& 255) := by
  have hu' : (s.toUInt32 &&& Int32.toUInt32 31).toNat % 32 = k := hu
  have e2 : ((((y).toUInt32 >>> ((s).toUInt32 &&& Int32.toUInt32 31)).toInt32) &&& 255) = nI (y.toBitVec.toNat / 2 ^ k % 256) := by
    rw [pk_and _ 8 (by decide)]
    congr 2
    show (y.toUInt32 >>> (s.toUInt32 &&& Int32.toUInt32 31)).toNat = _
    rw [UInt32.toNat_shiftRight, hu', Nat.shiftRight_eq_div_pow]
    rfl
  have e3 : y.toInt = if 2 * y.toBitVec.toNat < 2 ^ 32 then (y.toBitVec.toNat : Int) else (y.toBitVec.toNat : Int) - (2 ^ 32 : Nat) := BitVec.toInt_eq_toNat_cond _
  have e4 : y.toBitVec.toNat < 2 ^ 32 := y.toBitVec.isLt
  have e1 : (mNr 21 ((y >>> (s &&& 31)).toInt8.toInt32)).toInt = (y.toInt / (2 ^ k : Nat)).bmod 256 := by
    show (vp_nar .byte _).toInt = _
    rw [pk_vb, Int8.toInt_toInt32, Int32.toInt_toInt8, pk_shr _ _ k hs, Int.shiftRight_eq_div_pow]
  refine ⟨_, Nat.mod_lt _ (by decide), e2, e1.trans ?_⟩
  generalize y.toBitVec.toNat = u at *
  generalize y.toInt = v at *
  rw [Int.bmod_def]
  rcases hk with rfl | rfl | rfl | rfl <;> split at e3 <;> split <;> split <;> omega
theorem TP_u {tp tr : mF} {k : Nat} {a b : Int32} (h : TP tp tr) (hb : BY a b) : TP (upd tp k a) (upd tr k b) := fun j hj => by
  rw [upd_at, upd_at]
  split
  · exact hb
  · exact h j hj
section TPS
variable {t f tp tr : mF} {s : Nat}
theorem l_app {y1 : Int32} : ∀ (m fuel fuel' s : Nat) (t f tp tr : mF), m < 4 → t 1 = nI s → f 4 = nI s → s + (m + 1) ≤ 700 → TP tp tr → m + 2 ≤ fuel → m + 2 ≤ fuel' → OX9_append_b1 fuel y1 (nI (8 * m)) t tp ∧ OX10_types_b1 fuel' y1 (nI (8 * m)) f tr ∧ ∃ tp' tr', FX9_append_b1 fuel y1 (nI (8 * m)) t tp = (upd t 1 (nI (s + (m + 1))), tp') ∧ FX10_types_b1 fuel' y1 (nI (8 * m)) f tr = (upd f 4 (nI (s + (m + 1))), tr') ∧ TP tp' tr' := by
  intro m
  induction m with
  | zero =>
    intro fuel fuel' s t f tp tr _ h1 h4 hs hT hf hf'
    obtain ⟨fuel, rfl⟩ : ∃ k, fuel = k + 2 := ⟨fuel - 2, by omega⟩
    obtain ⟨fuel', rfl⟩ : ∃ k, fuel' = k + 2 := ⟨fuel' - 2, by omega⟩
    have c : ¬ (700 : Int32) ≤ nI s := nI_ge (show s < 700 by omega) (by decide)
    have z : ¬ nI (8 * 0) < 0 := by decide
    have z1 : nI (8 * 0) + (-8) < 0 := by decide
    have vi : vp_in (nI s) 700 := vp_in_nI (by omega) (by decide)
    have hb := BY_sh (y := y1) (s := nI (8 * 0)) (k := 0) (by decide) (by decide) (by decide)
    rw [OX9_append_b1, FX9_append_b1, OX10_types_b1, FX10_types_b1, h1, h4, if_neg z, if_neg c, if_neg z, nI_clamp (by omega), nI_1]
    dsimp only
    rw [OX9_append_b1, FX9_append_b1, OX10_types_b1, FX10_types_b1, if_pos z1, if_pos z1]
    exact ⟨⟨fun q => absurd q z, fun _ => ⟨fun q => absurd q c, fun _ => ⟨vi, fun _ => trivial, fun q => absurd z1 q⟩⟩⟩, ⟨fun q => absurd q z, fun _ => ⟨vi, fun _ => trivial, fun q => absurd z1 q⟩⟩, _, _, rfl, rfl, TP_u hT hb⟩
  | succ m ih =>
    intro fuel fuel' s t f tp tr hm h1 h4 hs hT hf hf'
    obtain ⟨fuel, rfl⟩ : ∃ k, fuel = k + 1 := ⟨fuel - 1, by omega⟩
    obtain ⟨fuel', rfl⟩ : ∃ k, fuel' = k + 1 := ⟨fuel' - 1, by omega⟩
    have c : ¬ (700 : Int32) ≤ nI s := nI_ge (show s < 700 by omega) (by decide)
    have z : ¬ nI (8 * (m + 1)) < 0 := nI_pos (by omega)
    have z1 : nI (8 * (m + 1)) + (-8) = nI (8 * m) := by
      rcases (show m = 0 ∨ m = 1 ∨ m = 2 by omega) with rfl | rfl | rfl <;> decide
    have vi : vp_in (nI s) 700 := vp_in_nI (by omega) (by decide)
    have hb : BY (mNr 21 ((y1 >>> (nI (8 * (m + 1)) &&& 31)).toInt8.toInt32)) ((((y1).toUInt32 >>> ((nI (8 * (m + 1))).toUInt32 &&& Int32.toUInt32 31)).toInt32) &&& 255) := by
      rcases (show m = 0 ∨ m = 1 ∨ m = 2 by omega) with rfl | rfl | rfl
      · exact BY_sh (k := 8) (by decide) (by decide) (by decide)
      · exact BY_sh (k := 16) (by decide) (by decide) (by decide)
      · exact BY_sh (k := 24) (by decide) (by decide) (by decide)
    obtain ⟨i1, i2, tp', tr', i3, i4, i5⟩ := ih fuel fuel' (s + 1) (upd t 1 (nI (s + 1))) (upd f 4 (nI (s + 1))) _ _ (by omega) pk_us pk_us (by omega) (TP_u (k := s) hT hb) (by omega) (by omega)
    rw [upd_twice, show s + 1 + (m + 1) = s + (m + 1 + 1) by omega] at i3 i4
    rw [OX9_append_b1, FX9_append_b1, OX10_types_b1, FX10_types_b1, h1, h4, if_neg z, if_neg c, if_neg z, nI_clamp (by omega), nI_1, z1]
    exact ⟨⟨fun q => absurd q z, fun _ => ⟨fun q => absurd q c, fun _ => ⟨vi, i1⟩⟩⟩, ⟨fun q => absurd q z, fun _ => ⟨vi, i2⟩⟩, tp', tr', i3, i4, i5⟩
theorem p_append (x : Int32) (h1 : t 1 = nI s) (h4 : f 4 = nI s) (hs : s + 4 ≤ 700) (hT : TP tp tr) : OX9_append x t tp ∧ OX10_types x f tr ∧ ∃ tp' tr', FX9_append x t tp = (0, upd t 1 (nI (s + 4)), tp') ∧ FX10_types x f tr = (0, upd f 4 (nI (s + 4)), tr') ∧ TP tp' tr' := by
  obtain ⟨a1, a2, tp', tr', a3, a4, a5⟩ := l_app (y1 := x) 3 10000 10000 s t f tp tr (by decide) h1 h4 hs hT (by decide) (by decide)
  refine ⟨a1, a2, tp', tr', ?_, ?_, a5⟩
  · unfold FX9_append
    rw [show (24 : Int32) = nI (8 * 3) from rfl, a3]
  · unfold FX10_types
    rw [show (24 : Int32) = nI (8 * 3) from rfl, a4]
theorem c_feed {x1 x2 x3 x4 x5 : Int32} (h1 : t 1 = nI s) (h4 : f 4 = nI s) (hs : s ≤ 700) (hT : TP tp tr) : OX9_feed x1 x2 x3 x4 x5 t tp ∧ OX10_feed x1 x2 x3 x4 x5 f tr ∧ ∃ (r : Int32) (s' : Nat) (tp' tr' : mF), s' ≤ 700 ∧ FX9_feed x1 x2 x3 x4 x5 t tp = (r, upd t 1 (nI s'), tp') ∧ FX10_feed x1 x2 x3 x4 x5 f tr = (r, upd (upd f 0 0) 4 (nI s'), tr') ∧ TP tp' tr' := by
  have h4' : upd f 0 0 4 = nI s := (pk_un (by decide)).trans h4
  unfold OX9_feed OX10_feed FX9_feed FX10_feed
  rw [h1, h4, show nI s + 20 = nI (s + 20) from nI_add s 20]
  rcases Nat.lt_or_ge 680 s with q | q
  · have c1 : ¬ nI s ≤ 680 := nI_ge q (by omega)
    have c2 : ¬ nI (s + 20) ≤ 700 := nI_ge (show 700 < s + 20 by omega) (by omega)
    rw [if_neg c1, if_neg c2]
    refine ⟨⟨fun z => absurd z c1, fun _ => trivial⟩, ⟨fun z => absurd z c2, fun _ => trivial⟩, -1, s, tp, tr, hs, ?_, ?_, hT⟩
    · rw [upd_self h1]
    · rw [upd_self h4']
  · have c1 : nI s ≤ 680 := nI_le q (by decide)
    have c2 : nI (s + 20) ≤ 700 := nI_le (show s + 20 ≤ 700 by omega) (by decide)
    obtain ⟨a1, a2, p1, r1, a3, a4, a5⟩ := p_append x1 h1 h4' (by omega) hT
    obtain ⟨b1, b2, p2, r2, b3, b4, b5⟩ := p_append (t := upd t 1 (nI (s + 4))) (f := upd (upd f 0 0) 4 (nI (s + 4))) (s := s + 4) x2 pk_us pk_us (by omega) a5
    obtain ⟨d1, d2, p3, r3, d3, d4, d5⟩ := p_append (t := upd t 1 (nI (s + 4 + 4))) (f := upd (upd f 0 0) 4 (nI (s + 4 + 4))) (s := s + 4 + 4) x3 pk_us pk_us (by omega) b5
    obtain ⟨g1, g2, p4, r4, g3, g4, g5⟩ := p_append (t := upd t 1 (nI (s + 4 + 4 + 4))) (f := upd (upd f 0 0) 4 (nI (s + 4 + 4 + 4))) (s := s + 4 + 4 + 4) x4 pk_us pk_us (by omega) d5
    obtain ⟨k1, k2, p5, r5, k3, k4, k5⟩ := p_append (t := upd t 1 (nI (s + 4 + 4 + 4 + 4))) (f := upd (upd f 0 0) 4 (nI (s + 4 + 4 + 4 + 4))) (s := s + 4 + 4 + 4 + 4) x5 pk_us pk_us (by omega) g5
    rw [upd_twice] at b3 b4 d3 d4 g3 g4 k3 k4
    rw [if_pos c1, if_pos c2, a3, a4]
    dsimp only
    rw [b3, b4]
    dsimp only
    rw [d3, d4]
    dsimp only
    rw [g3, g4]
    dsimp only
    rw [k3, k4]
    refine ⟨⟨fun _ => ⟨a1, b1, d1, g1, k1⟩, fun z => absurd c1 z⟩, ⟨fun _ => ⟨a2, b2, d2, g2, k2⟩, fun z => absurd c2 z⟩, nI (s + 4 + 4 + 4 + 4 + 4), s + 4 + 4 + 4 + 4 + 4, p5, r5, by omega, ?_, ?_, k5⟩
    · dsimp only
      rw [pk_us]
    · dsimp only
      rw [pk_us]
theorem c_end {x : Int32} (h1 : t 1 = nI s) (h4 : f 4 = nI s) (hs : s ≤ 700) : ∃ (r : Int32) (s' : Nat), s' ≤ 700 ∧ FX9_end x t = (r, upd t 1 (nI s')) ∧ FX10_end x f = (r, upd (upd f 0 0) 4 (nI s')) := by
  have h4' : upd f 0 0 4 = nI s := (pk_un (by decide)).trans h4
  unfold FX9_end FX10_end
  rw [h1, h4]
  by_cases c : x < 0
  · rw [if_pos c, if_pos c]
    refine ⟨0, s, hs, ?_, ?_⟩
    · rw [upd_self h1]
    · rw [upd_self h4']
  · obtain ⟨k, hk, rfl⟩ := nI_of c
    rw [if_neg c, if_neg c]
    rcases Nat.lt_or_ge s k with q | q
    · have c2 : ¬ nI k ≤ nI s := nI_ge q hk
      rw [if_neg c2, if_neg c2]
      refine ⟨0, s, hs, ?_, ?_⟩
      · rw [upd_self h1]
      · rw [upd_self h4']
    · have c2 : nI k ≤ nI s := nI_le q (by omega)
      rw [if_pos c2, if_pos c2]
      exact ⟨1, k, by omega, rfl, rfl⟩
end TPS
