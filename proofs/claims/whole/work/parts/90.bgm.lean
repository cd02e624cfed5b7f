/-! PURE: an empty machine on both sides (GENERATED, wip/gen/p/90.py) -/
section BGM
theorem l_fill20 : ∀ (m i fuel : Nat) (g : mF), i + m = 20 → m < fuel → OJ_fill_20_b1 fuel 0 20 (nI i) g ∧ ∀ k, k < 20 → FJ_fill_20_b1 fuel 0 20 (nI i) g k = if i ≤ k then 0 else g k
  | _, _, 0, _, _, h => absurd h (Nat.not_lt_zero _)
  | 0, i, fuel + 1, g, h, _ => by
    have c : (20 : Int32) ≤ nI i := nI_le (show 20 ≤ i by omega) (by omega)
    rw [OJ_fill_20_b1, FJ_fill_20_b1, if_pos c]
    exact ⟨⟨fun _ => trivial, fun z => absurd c z⟩, fun k hk => by rw [if_neg (by omega)]⟩
  | m + 1, i, fuel + 1, g, h, _ => by
    have c : ¬ (20 : Int32) ≤ nI i := nI_ge (show i < 20 by omega) (by decide)
    have ci : (nI i).toNatClampNeg = i := nI_clamp (by omega)
    have vi : vp_in (nI i) 20 := vp_in_nI (by omega) (by decide)
    obtain ⟨i1, i2⟩ := l_fill20 m (i + 1) fuel (upd g i 0) (by omega) (by omega)
    rw [OJ_fill_20_b1, FJ_fill_20_b1, if_neg c, ci, nI_1]
    refine ⟨⟨fun z => absurd z c, fun _ => ⟨vi, i1⟩⟩, fun k hk => (i2 k hk).trans ?_⟩
    by_cases e : k = i
    · subst e
      rw [if_neg (by omega), pk_us, if_pos (Nat.le_refl _)]
    · rw [pk_un e]
      by_cases q : i ≤ k
      · rw [if_pos q, if_pos (by omega)]
      · rw [if_neg q, if_neg (by omega)]
/-- the registers of an empty machine -/
def rg0 (r : mF) : Prop := ∀ k, k < 20 → r k = if k = 4 ∨ k = 11 ∨ (14 ≤ k ∧ k ≤ 17) then -1 else 0
theorem bg_reg (reg : mF) : OJ_fill_20 0 reg ∧ OX3_begin_b1 10000 0 (upd (upd (FJ_fill_20 0 reg).2 4 (-1)) 11 (-1)) ∧ rg0 (FX3_begin_b1 10000 0 (upd (upd (FJ_fill_20 0 reg).2 4 (-1)) 11 (-1))) := by
  obtain ⟨a1, a2⟩ := l_fill20 20 0 10000 reg (by decide) (by decide)
  rw [nI_0] at a1 a2
  have e0 : FJ_fill_20 0 reg = (0, FJ_fill_20_b1 10000 0 20 0 reg) := by
    unfold FJ_fill_20
    dsimp only
  rw [e0]
  dsimp only
  generalize FJ_fill_20_b1 10000 0 20 0 reg = g at *
  have z1 : ¬ (1 : Int32) < 0 := by decide
  have z2 : ¬ (1 : Int32) < 0 + 1 := by decide
  have z3 : (1 : Int32) < 0 + 1 + 1 := by decide
  have k1 : ((14 : Int32) + 0).toNatClampNeg = 14 := by decide
  have k2 : ((16 : Int32) + 0).toNatClampNeg = 16 := by decide
  have k3 : ((14 : Int32) + (0 + 1)).toNatClampNeg = 15 := by decide
  have k4 : ((16 : Int32) + (0 + 1)).toNatClampNeg = 17 := by decide
  have v1 : vp_in ((14 : Int32) + 0) 20 := vp_in_nI (show 14 < 20 by decide) (by decide)
  have v2 : vp_in ((16 : Int32) + 0) 20 := vp_in_nI (show 16 < 20 by decide) (by decide)
  have v3 : vp_in ((14 : Int32) + (0 + 1)) 20 := vp_in_nI (show 15 < 20 by decide) (by decide)
  have v4 : vp_in ((16 : Int32) + (0 + 1)) 20 := vp_in_nI (show 17 < 20 by decide) (by decide)
  refine ⟨?_, ?_, ?_⟩
  · unfold OJ_fill_20
    exact a1
  · show OX3_begin_b1 (9997 + 1 + 1 + 1) 0 _
    rw [OX3_begin_b1]
    refine ⟨fun _ => trivial, fun _ => ⟨v1, v2, ?_⟩⟩
    rw [OX3_begin_b1]
    refine ⟨fun _ => trivial, fun _ => ⟨v3, v4, ?_⟩⟩
    rw [OX3_begin_b1]
    exact ⟨fun _ => trivial, fun z => absurd z3 z⟩
  · have e : FX3_begin_b1 (9997 + 1 + 1 + 1) 0 (upd (upd g 4 (-1)) 11 (-1)) = upd (upd (upd (upd (upd (upd g 4 (-1)) 11 (-1)) 14 (-1)) 16 (-1)) 15 (-1)) 17 (-1) := by
      rw [FX3_begin_b1, if_neg z1, FX3_begin_b1, if_neg z2, FX3_begin_b1, if_pos z3, k1, k2, k3, k4]
    intro k hk
    show FX3_begin_b1 (9997 + 1 + 1 + 1) 0 (upd (upd g 4 (-1)) 11 (-1)) k = _
    rw [e]
    simp only [upd_at]
    rw [a2 k hk, if_pos (Nat.zero_le _)]
    by_cases c1 : k = 17
    · rw [if_pos c1, if_pos (by omega)]
    · rw [if_neg c1]
      by_cases c2 : k = 15
      · rw [if_pos c2, if_pos (by omega)]
      · rw [if_neg c2]
        by_cases c3 : k = 16
        · rw [if_pos c3, if_pos (by omega)]
        · rw [if_neg c3]
          by_cases c4 : k = 14
          · rw [if_pos c4, if_pos (by omega)]
          · rw [if_neg c4]
            by_cases c5 : k = 11
            · rw [if_pos c5, if_pos (by omega)]
            · rw [if_neg c5]
              by_cases c6 : k = 4
              · rw [if_pos c6, if_pos (by omega)]
              · rw [if_neg c6, if_neg (by omega)]
/-- an empty link -/
def lke (l : mF) : Prop := l 0 = -1 ∧ l 2 = 0 ∧ l 4 = -1 ∧ l 6 = 0 ∧ l 7 = 0 ∧ l 9 = -1
theorem bg_link (l : mF) : ∃ l', FX2_empty l = (0, l') ∧ lke l' := by
  refine ⟨_, rfl, ?_⟩
  unfold FX2_endSending FX2_endReceiving
  exact ⟨rfl, rfl, rfl, rfl, rfl, rfl⟩
/-- a block of an empty machine -/
def bk0 (mem g : mF) : Prop := (∀ k, k < 96 → g k = mem k) ∧ g 96 = 0 ∧ g 97 = 0 ∧ g 98 = -1 ∧ g 99 = -1 ∧ g 102 = 0 ∧ g 110 = 0 ∧ g 117 = 0 ∧ (g 154 = -1 ∧ g 158 = -1 ∧ g 161 = 0 ∧ g 163 = -1) ∧ g 164 = -1 ∧ g 168 = -1 ∧ g 171 = 0 ∧ g 173 = -1
theorem lke_R {l g : mF} {b : Nat} (h : lke l) (a : g b = -1) (b1 : g (b + 4) = -1) (c : g (b + 7) = 0) (d : g (b + 9) = -1) : RLk l b g := by
  obtain ⟨h0, h2, h4, h6, h7, h9⟩ := h
  refine ⟨⟨a.trans h0.symm, fun z => absurd h0 z, fun _ => h2⟩, ⟨b1.trans h4.symm, fun z => absurd h4 z, fun _ => h6⟩, ⟨c.trans h7.symm, Or.inl h7, fun z => ?_⟩, d.trans h9.symm, fun z => absurd h9 z⟩
  rw [h7] at z
  exact absurd z (by decide)
theorem rme {reg mem tz tp tt tb l0 l1 g : mF} (hr : rg0 reg) (hz : tz 0 = 0) (hb : ∀ k, k < 12 → (tb k = 0 ∨ tb k = 1)) (h0 : lke l0) (h1 : lke l1) (hg : bk0 mem g) : RM reg mem tz tp tt tb l0 l1 g := by
  obtain ⟨g1, g2, g3, g4, g5, g6, g7, g8, ⟨k1, k2, k3, k4⟩, k5, k6, k7, k8⟩ := hg
  refine ⟨Or.inl ⟨hr 4 (by decide), g6⟩, g1, ⟨g4.trans (hr 14 (by decide)).symm, g5.trans (hr 15 (by decide)).symm, fun z => absurd (hr 14 (by decide)) z, fun z => absurd (hr 15 (by decide)) z⟩, Or.inl ⟨hr 11 (by decide), g7⟩, ⟨g2.trans (hr 18 (by decide)).symm, g3.trans (hr 19 (by decide)).symm, Or.inl (hr 19 (by decide))⟩, ⟨0, by decide, hz, g8, fun k hk => absurd hk (Nat.not_lt_zero _), hb, fun i j _ hj => absurd hj (Nat.not_lt_zero _)⟩, lke_R h0 k1 k2 k3 k4, lke_R h1 k5 k6 k7 k8⟩
end BGM
