/-! PURE: two empty machines in the reference's block (GENERATED, wip/gen/p/91.py) -/
section BGN
variable {f rm n : mF}
theorem upd_m {g : mF} {j k : Nat} (h : k = j ∨ g k = -1) : upd g j (-1) k = -1 := by
  rw [upd_at]
  by_cases e : k = j
  · rw [if_pos e]
  · rw [if_neg e]
    exact h.resolve_left e
theorem l_bg12 {b mm : Nat} {y1 : Int32} (hb : b = 0 ∨ b = 174) (h45 : f 45 = nI b) : OX10_begins_b12 10000 y1 0 f n ∧ ∀ k, FX10_begins_b12 10000 y1 0 f n k = if k = b + 98 ∨ k = b + 100 ∨ k = b + 154 ∨ k = b + 158 ∨ k = b + 163 ∨ k = b + 99 ∨ k = b + 101 ∨ k = b + 164 ∨ k = b + 168 ∨ k = b + 173 then -1 else n k := by
  have z1 : ¬ (2 : Int32) ≤ 0 := by decide
  have z2 : ¬ (2 : Int32) ≤ 0 + 1 := by decide
  have z3 : (2 : Int32) ≤ 0 + 1 + 1 := by decide
  have A0 : (((nI b + 98) + 0 : Int32)) = nI (b + 98) := by rcases hb with rfl | rfl <;> decide
  have cA0 : (nI (b + 98)).toNatClampNeg = b + 98 := nI_clamp (by omega)
  have vA0 : vp_in (nI (b + 98)) 532 := vp_in_nI (by omega) (by decide)
  have B0 : (((nI b + 100) + 0 : Int32)) = nI (b + 100) := by rcases hb with rfl | rfl <;> decide
  have cB0 : (nI (b + 100)).toNatClampNeg = b + 100 := nI_clamp (by omega)
  have vB0 : vp_in (nI (b + 100)) 532 := vp_in_nI (by omega) (by decide)
  have C0 : ((((nI b + 154) + 10 * 0) + 0 : Int32)) = nI (b + 154) := by rcases hb with rfl | rfl <;> decide
  have cC0 : (nI (b + 154)).toNatClampNeg = b + 154 := nI_clamp (by omega)
  have vC0 : vp_in (nI (b + 154)) 532 := vp_in_nI (by omega) (by decide)
  have D0 : ((((nI b + 154) + 10 * 0) + 4 : Int32)) = nI (b + 158) := by rcases hb with rfl | rfl <;> decide
  have cD0 : (nI (b + 158)).toNatClampNeg = b + 158 := nI_clamp (by omega)
  have vD0 : vp_in (nI (b + 158)) 532 := vp_in_nI (by omega) (by decide)
  have E0 : ((((nI b + 154) + 10 * 0) + 9 : Int32)) = nI (b + 163) := by rcases hb with rfl | rfl <;> decide
  have cE0 : (nI (b + 163)).toNatClampNeg = b + 163 := nI_clamp (by omega)
  have vE0 : vp_in (nI (b + 163)) 532 := vp_in_nI (by omega) (by decide)
  have A1 : (((nI b + 98) + (0 + 1) : Int32)) = nI (b + 99) := by rcases hb with rfl | rfl <;> decide
  have cA1 : (nI (b + 99)).toNatClampNeg = b + 99 := nI_clamp (by omega)
  have vA1 : vp_in (nI (b + 99)) 532 := vp_in_nI (by omega) (by decide)
  have B1 : (((nI b + 100) + (0 + 1) : Int32)) = nI (b + 101) := by rcases hb with rfl | rfl <;> decide
  have cB1 : (nI (b + 101)).toNatClampNeg = b + 101 := nI_clamp (by omega)
  have vB1 : vp_in (nI (b + 101)) 532 := vp_in_nI (by omega) (by decide)
  have C1 : ((((nI b + 154) + 10 * (0 + 1)) + 0 : Int32)) = nI (b + 164) := by rcases hb with rfl | rfl <;> decide
  have cC1 : (nI (b + 164)).toNatClampNeg = b + 164 := nI_clamp (by omega)
  have vC1 : vp_in (nI (b + 164)) 532 := vp_in_nI (by omega) (by decide)
  have D1 : ((((nI b + 154) + 10 * (0 + 1)) + 4 : Int32)) = nI (b + 168) := by rcases hb with rfl | rfl <;> decide
  have cD1 : (nI (b + 168)).toNatClampNeg = b + 168 := nI_clamp (by omega)
  have vD1 : vp_in (nI (b + 168)) 532 := vp_in_nI (by omega) (by decide)
  have E1 : ((((nI b + 154) + 10 * (0 + 1)) + 9 : Int32)) = nI (b + 173) := by rcases hb with rfl | rfl <;> decide
  have cE1 : (nI (b + 173)).toNatClampNeg = b + 173 := nI_clamp (by omega)
  have vE1 : vp_in (nI (b + 173)) 532 := vp_in_nI (by omega) (by decide)
  refine ⟨?_, ?_⟩
  · show OX10_begins_b12 (9997 + 1 + 1 + 1) y1 0 f n
    rw [OX10_begins_b12, h45, A0, B0, C0, D0, E0]
    refine ⟨fun z => absurd z z1, fun _ => ⟨vA0, vB0, vC0, vD0, vE0, ?_⟩⟩
    rw [OX10_begins_b12, h45, A1, B1, C1, D1, E1]
    refine ⟨fun z => absurd z z2, fun _ => ⟨vA1, vB1, vC1, vD1, vE1, ?_⟩⟩
    rw [OX10_begins_b12]
    exact ⟨fun _ => trivial, fun z => absurd z3 z⟩
  · have e : FX10_begins_b12 (9997 + 1 + 1 + 1) y1 0 f n = upd (upd (upd (upd (upd (upd (upd (upd (upd (upd (n) (b + 98) (-1)) (b + 100) (-1)) (b + 154) (-1)) (b + 158) (-1)) (b + 163) (-1)) (b + 99) (-1)) (b + 101) (-1)) (b + 164) (-1)) (b + 168) (-1)) (b + 173) (-1) := by
      rw [FX10_begins_b12, if_neg z1, FX10_begins_b12, if_neg z2, FX10_begins_b12, if_pos z3, h45, A0, B0, C0, D0, E0, A1, B1, C1, D1, E1, cA0, cB0, cC0, cD0, cE0, cA1, cB1, cC1, cD1, cE1]
    intro k
    show FX10_begins_b12 (9997 + 1 + 1 + 1) y1 0 f n k = _
    rw [e]
    by_cases q : k = b + 98 ∨ k = b + 100 ∨ k = b + 154 ∨ k = b + 158 ∨ k = b + 163 ∨ k = b + 99 ∨ k = b + 101 ∨ k = b + 164 ∨ k = b + 168 ∨ k = b + 173
    · rw [if_pos q]
      rcases q with q | q | q | q | q | q | q | q | q | q
      · exact upd_m (Or.inr (upd_m (Or.inr (upd_m (Or.inr (upd_m (Or.inr (upd_m (Or.inr (upd_m (Or.inr (upd_m (Or.inr (upd_m (Or.inr (upd_m (Or.inr (upd_m (Or.inl q)))))))))))))))))))
      · exact upd_m (Or.inr (upd_m (Or.inr (upd_m (Or.inr (upd_m (Or.inr (upd_m (Or.inr (upd_m (Or.inr (upd_m (Or.inr (upd_m (Or.inr (upd_m (Or.inl q)))))))))))))))))
      · exact upd_m (Or.inr (upd_m (Or.inr (upd_m (Or.inr (upd_m (Or.inr (upd_m (Or.inr (upd_m (Or.inr (upd_m (Or.inr (upd_m (Or.inl q)))))))))))))))
      · exact upd_m (Or.inr (upd_m (Or.inr (upd_m (Or.inr (upd_m (Or.inr (upd_m (Or.inr (upd_m (Or.inr (upd_m (Or.inl q)))))))))))))
      · exact upd_m (Or.inr (upd_m (Or.inr (upd_m (Or.inr (upd_m (Or.inr (upd_m (Or.inr (upd_m (Or.inl q)))))))))))
      · exact upd_m (Or.inr (upd_m (Or.inr (upd_m (Or.inr (upd_m (Or.inr (upd_m (Or.inl q)))))))))
      · exact upd_m (Or.inr (upd_m (Or.inr (upd_m (Or.inr (upd_m (Or.inl q)))))))
      · exact upd_m (Or.inr (upd_m (Or.inr (upd_m (Or.inl q)))))
      · exact upd_m (Or.inr (upd_m (Or.inl q)))
      · exact upd_m (Or.inl q)
    · rw [if_neg q]
      exact (pk_un (fun z => q (Or.inr (Or.inr (Or.inr (Or.inr (Or.inr (Or.inr (Or.inr (Or.inr (Or.inr (z)))))))))))).trans ((pk_un (fun z => q (Or.inr (Or.inr (Or.inr (Or.inr (Or.inr (Or.inr (Or.inr (Or.inr (Or.inl z))))))))))).trans ((pk_un (fun z => q (Or.inr (Or.inr (Or.inr (Or.inr (Or.inr (Or.inr (Or.inr (Or.inl z)))))))))).trans ((pk_un (fun z => q (Or.inr (Or.inr (Or.inr (Or.inr (Or.inr (Or.inr (Or.inl z))))))))).trans ((pk_un (fun z => q (Or.inr (Or.inr (Or.inr (Or.inr (Or.inr (Or.inl z)))))))).trans ((pk_un (fun z => q (Or.inr (Or.inr (Or.inr (Or.inr (Or.inl z))))))).trans ((pk_un (fun z => q (Or.inr (Or.inr (Or.inr (Or.inl z)))))).trans ((pk_un (fun z => q (Or.inr (Or.inr (Or.inl z))))).trans ((pk_un (fun z => q (Or.inr (Or.inl z)))).trans ((pk_un (fun z => q (Or.inl z))))))))))))
theorem l_bgm {mm : Nat} (hm : mm < 2) (hn : ∀ k, 174 * mm ≤ k → k < 174 * mm + 174 → n k = 0) : OX10_begins_b10 10000 (nI mm) 0 (upd f 45 (FX10_base (nI mm))) rm n ∧ OX10_begins_b12 10000 (nI mm) 0 (upd f 45 (FX10_base (nI mm))) (FX10_begins_b10 10000 (nI mm) 0 (upd f 45 (FX10_base (nI mm))) rm n) ∧ FX10_base (nI mm) = nI (174 * mm) ∧ bk0 (fun k => rm (96 * mm + k)) (fun k => FX10_begins_b12 10000 (nI mm) 0 (upd f 45 (FX10_base (nI mm))) (FX10_begins_b10 10000 (nI mm) 0 (upd f 45 (FX10_base (nI mm))) rm n) (174 * mm + k)) ∧ ∀ k, (k < 174 * mm ∨ 174 * mm + 174 ≤ k) → FX10_begins_b12 10000 (nI mm) 0 (upd f 45 (FX10_base (nI mm))) (FX10_begins_b10 10000 (nI mm) 0 (upd f 45 (FX10_base (nI mm))) rm n) k = n k := by
  have eb : FX10_base (nI mm) = nI (174 * mm) := by
    unfold FX10_base
    exact nI_mul 174 mm
  rw [eb]
  obtain ⟨a1, a2⟩ := l_bg10 (f := upd f 45 (nI (174 * mm))) (rm := rm) rfl hm pk_us 96 0 10000 n (by decide) (by decide)
  rw [nI_0] at a1 a2
  obtain ⟨b1, b2⟩ := l_bg12 (mm := mm) (f := upd f 45 (nI (174 * mm))) (b := 174 * mm) (y1 := nI mm) (n := FX10_begins_b10 10000 (nI mm) 0 (upd f 45 (nI (174 * mm))) rm n) (by omega) pk_us
  have z : ∀ k, 96 ≤ k → k < 174 → ¬ (k = 98 ∨ k = 100 ∨ k = 154 ∨ k = 158 ∨ k = 163 ∨ k = 99 ∨ k = 101 ∨ k = 164 ∨ k = 168 ∨ k = 173) → FX10_begins_b12 10000 (nI mm) 0 (upd f 45 (nI (174 * mm))) (FX10_begins_b10 10000 (nI mm) 0 (upd f 45 (nI (174 * mm))) rm n) (174 * mm + k) = 0 := fun k h1 h2 h3 => by
    rw [b2, if_neg (by omega), a2, if_neg (by omega)]
    exact hn _ (by omega) (by omega)
  have o : ∀ k, (k = 98 ∨ k = 100 ∨ k = 154 ∨ k = 158 ∨ k = 163 ∨ k = 99 ∨ k = 101 ∨ k = 164 ∨ k = 168 ∨ k = 173) → FX10_begins_b12 10000 (nI mm) 0 (upd f 45 (nI (174 * mm))) (FX10_begins_b10 10000 (nI mm) 0 (upd f 45 (nI (174 * mm))) rm n) (174 * mm + k) = -1 := fun k h3 => by
    rw [b2, if_pos (by omega)]
  refine ⟨a1, b1, rfl, ⟨fun k hk => ?_, z 96 (by decide) (by decide) (by decide), z 97 (by decide) (by decide) (by decide), o 98 (by decide), o 99 (by decide), z 102 (by decide) (by decide) (by decide), z 110 (by decide) (by decide) (by decide), z 117 (by decide) (by decide) (by decide), ⟨o 154 (by decide), o 158 (by decide), z 161 (by decide) (by decide) (by decide), o 163 (by decide)⟩, o 164 (by decide), o 168 (by decide), z 171 (by decide) (by decide) (by decide), o 173 (by decide)⟩, fun k hk => ?_⟩
  · show FX10_begins_b12 10000 (nI mm) 0 (upd f 45 (nI (174 * mm))) (FX10_begins_b10 10000 (nI mm) 0 (upd f 45 (nI (174 * mm))) rm n) (174 * mm + k) = rm (96 * mm + k)
    rw [b2, if_neg (by omega), a2, if_pos (by omega), show 174 * mm + k - 174 * mm = k by omega]
  · rw [b2, if_neg (by omega), a2, if_neg (by omega)]
theorem bk0_g {mem g g' : mF} (h : bk0 mem g) (e : ∀ k, k < 174 → g' k = g k) : bk0 mem g' := by
  obtain ⟨h0, h1, h2, h3, h4, h5, h6, h7, ⟨h8, h9, h10, h11⟩, h12, h13, h14, h15⟩ := h
  exact ⟨fun k hk => (e k (by omega)).trans (h0 k hk), (e _ (by decide)).trans h1, (e _ (by decide)).trans h2, (e _ (by decide)).trans h3, (e _ (by decide)).trans h4, (e _ (by decide)).trans h5, (e _ (by decide)).trans h6, (e _ (by decide)).trans h7, ⟨(e _ (by decide)).trans h8, (e _ (by decide)).trans h9, (e _ (by decide)).trans h10, (e _ (by decide)).trans h11⟩, (e _ (by decide)).trans h12, (e _ (by decide)).trans h13, (e _ (by decide)).trans h14, (e _ (by decide)).trans h15⟩
theorem l_bg9 (hn : ∀ k, k < 348 → n k = 0) : OX10_begins_b9 10000 0 f rm n ∧ ∃ f' n' : mF, FX10_begins_b9 10000 0 f rm n = (f', n') ∧ (∀ k, k ≠ 45 → f' k = f k) ∧ (∀ mm, mm < 2 → bk0 (fun k => rm (96 * mm + k)) (fun k => n' (174 * mm + k))) ∧ ∀ k, 348 ≤ k → n' k = n k := by
  have z1 : ¬ (2 : Int32) ≤ 0 := by decide
  have z2 : ¬ (2 : Int32) ≤ 0 + 1 := by decide
  have z3 : (2 : Int32) ≤ 0 + 1 + 1 := by decide
  have y0 : (0 : Int32) = nI 0 := rfl
  have y1 : (0 : Int32) + 1 = nI 1 := rfl
  obtain ⟨a1, a2, a3, a4, a5⟩ := l_bgm (f := f) (rm := rm) (n := n) (mm := 0) (by decide) (fun k _ h => hn k (by omega))
  rw [nI_0] at a1 a2 a3 a4 a5
  generalize e1 : FX10_begins_b12 10000 0 0 (upd f 45 (FX10_base 0)) (FX10_begins_b10 10000 0 0 (upd f 45 (FX10_base 0)) rm n) = n1 at *
  obtain ⟨b1, b2, b3, b4, b5⟩ := l_bgm (f := upd f 45 (FX10_base 0)) (rm := rm) (n := n1) (mm := 1) (by decide) (fun k h h2 => (a5 k (by omega)).trans (hn k (by omega)))
  rw [← y1] at b1 b2 b3 b4 b5
  generalize e2 : FX10_begins_b12 10000 (0 + 1) 0 (upd (upd f 45 (FX10_base 0)) 45 (FX10_base (0 + 1))) (FX10_begins_b10 10000 (0 + 1) 0 (upd (upd f 45 (FX10_base 0)) 45 (FX10_base (0 + 1))) rm n1) = n2 at *
  refine ⟨?_, upd (upd f 45 (FX10_base 0)) 45 (FX10_base (0 + 1)), n2, ?_, fun k hk => (pk_un hk).trans (pk_un hk), fun mm hm => ?_, fun k hk => (b5 k (by omega)).trans (a5 k (by omega))⟩
  · show OX10_begins_b9 (9997 + 1 + 1 + 1) 0 f rm n
    rw [OX10_begins_b9]
    dsimp only
    rw [e1]
    refine ⟨fun z => absurd z z1, fun _ => ⟨a1, a2, ?_⟩⟩
    rw [OX10_begins_b9]
    dsimp only
    rw [e2]
    refine ⟨fun z => absurd z z2, fun _ => ⟨b1, b2, ?_⟩⟩
    rw [OX10_begins_b9]
    exact ⟨fun _ => trivial, fun z => absurd z3 z⟩
  · show FX10_begins_b9 (9997 + 1 + 1 + 1) 0 f rm n = _
    rw [FX10_begins_b9, if_neg z1]
    dsimp only
    rw [e1, FX10_begins_b9, if_neg z2]
    dsimp only
    rw [e2, FX10_begins_b9, if_pos z3]
  · rcases (show mm = 0 ∨ mm = 1 by omega) with rfl | rfl
    · exact bk0_g a4 (fun k hk => b5 (174 * 0 + k) (by omega))
    · exact b4
end BGN
