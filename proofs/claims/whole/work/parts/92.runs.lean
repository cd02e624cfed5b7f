/-! PURE: the runs begun on both sides (GENERATED, wip/gen/p/92.py) -/
section BGR
variable {m0 m1 prg rm rw_ rp ra rruns tz0 tp0 tt0 tb0 a00 a01 tz1 tp1 tt1 tb1 a10 a11 : mF} {N : Nat}
/-- the runs as the reference has them, where each begins told -/
def RNf (N : Nat) (rm rw_ rp ra rruns : mF) : Prop := ∀ k, k < N → rruns (4 * k) = rm k ∧ rruns (4 * k + 1) = rw_ k ∧ rruns (4 * k + 2) = rp k ∧ rruns (4 * k + 3) = ra k ∧ (∃ m : Nat, m ≤ 1 ∧ rm k = nI m) ∧ isWv (rw_ k) ∧ (rp k = 0 ∨ rp k = 1)
theorem l_bg15 (hN : N ≤ 12) (h12 : prg 12 = nI N) (h0 : m0 0 = 0) (h1 : m1 0 = 1) (hr : RNf N rm rw_ rp ra rruns) : ∀ (m i fuel fuel' : Nat) (reg0 mem0 reg1 mem1 F n : mF), i + m = N → m < fuel → m < fuel' → F 29 = nI N → RM reg0 mem0 tz0 tp0 tt0 tb0 a00 a01 (fun k => n (0 + k)) → RM reg1 mem1 tz1 tp1 tt1 tb1 a10 a11 (fun k => n (174 + k)) → OX3_begin_b3 fuel (nI i) m0 reg0 mem0 prg rm rw_ rp ra ∧ OX3_begin_b3 fuel (nI i) m1 reg1 mem1 prg rm rw_ rp ra ∧ OX10_begins_b15 fuel' (nI i) F rruns n ∧ ∃ F' n' : mF, FX10_begins_b15 fuel' (nI i) F rruns n = (F', n') ∧ (∀ k, k ≠ 45 → k ≠ 46 → F' k = F k) ∧ RM (FX3_begin_b3 fuel (nI i) m0 reg0 mem0 prg rm rw_ rp ra).1 (FX3_begin_b3 fuel (nI i) m0 reg0 mem0 prg rm rw_ rp ra).2 tz0 tp0 tt0 tb0 a00 a01 (fun k => n' (0 + k)) ∧ RM (FX3_begin_b3 fuel (nI i) m1 reg1 mem1 prg rm rw_ rp ra).1 (FX3_begin_b3 fuel (nI i) m1 reg1 mem1 prg rm rw_ rp ra).2 tz1 tp1 tt1 tb1 a10 a11 (fun k => n' (174 + k)) ∧ ∀ k, 348 ≤ k → n' k = n k
  | _, _, 0, _, _, _, _, _, _, _, _, h, _ => absurd h (Nat.not_lt_zero _)
  | _, _, _ + 1, 0, _, _, _, _, _, _, _, _, h => absurd h (Nat.not_lt_zero _)
  | 0, i, fuel + 1, fuel' + 1, reg0, mem0, reg1, mem1, F, n, hm, _, _ => by
    intro h29 r0 r1
    have c : prg 12 ≤ nI i := by rw [h12]; exact nI_le (by omega) (by omega)
    have c2 : F 29 ≤ nI i := by rw [h29]; exact nI_le (by omega) (by omega)
    rw [OX3_begin_b3, OX3_begin_b3, OX10_begins_b15, FX10_begins_b15, FX3_begin_b3, FX3_begin_b3, if_pos c, if_pos c2, if_pos c]
    exact ⟨⟨fun _ => trivial, fun z => absurd c z⟩, ⟨fun _ => trivial, fun z => absurd c z⟩, ⟨fun _ => trivial, fun z => absurd c2 z⟩, F, n, rfl, fun _ _ _ => rfl, r0, r1, fun _ _ => rfl⟩
  | m + 1, i, fuel + 1, fuel' + 1, reg0, mem0, reg1, mem1, F, n, hm, hf, hf' => by
    intro h29 r0 r1
    have z10 : ¬ (1 : Int32) = 0 := by decide
    have z01 : ¬ (0 : Int32) = 1 := by decide
    have c : ¬ prg 12 ≤ nI i := by rw [h12]; exact nI_ge (by omega) (by omega)
    have c2 : ¬ F 29 ≤ nI i := by rw [h29]; exact nI_ge (by omega) (by omega)
    have ci : (nI i).toNatClampNeg = i := nI_clamp (by omega)
    have vi : vp_in (nI i) 12 := vp_in_nI (by omega) (by decide)
    obtain ⟨q1, q2, q3, q4, ⟨mm, q5, q6⟩, q7, q8⟩ := hr i (by omega)
    have x0 : (4 : Int32) * nI i = nI (4 * i) := nI_mul 4 i
    have x1 : nI (4 * i) + 1 = nI (4 * i + 1) := nI_1 _
    have x2 : nI (4 * i) + 2 = nI (4 * i + 2) := nI_add _ 2
    have x3 : nI (4 * i) + 3 = nI (4 * i + 3) := nI_add _ 3
    have k0 : (nI (4 * i)).toNatClampNeg = 4 * i := nI_clamp (by omega)
    have k1 : (nI (4 * i + 1)).toNatClampNeg = 4 * i + 1 := nI_clamp (by omega)
    have k2 : (nI (4 * i + 2)).toNatClampNeg = 4 * i + 2 := nI_clamp (by omega)
    have k3 : (nI (4 * i + 3)).toNatClampNeg = 4 * i + 3 := nI_clamp (by omega)
    have v0 : vp_in (nI (4 * i)) 48 := vp_in_nI (by omega) (by decide)
    have v1 : vp_in (nI (4 * i + 1)) 48 := vp_in_nI (by omega) (by decide)
    have v2 : vp_in (nI (4 * i + 2)) 48 := vp_in_nI (by omega) (by decide)
    have v3 : vp_in (nI (4 * i + 3)) 48 := vp_in_nI (by omega) (by decide)
    have eb : FX10_base (nI mm) = nI (174 * mm) := by
      unfold FX10_base
      exact nI_mul 174 mm
    rcases (show mm = 0 ∨ mm = 1 by omega) with rfl | rfl
    · obtain ⟨b1, b2, z, n1, n2, b3, b4, b5, b6, b7, b8⟩ := p_begin (F := upd F 45 (nI (174 * 0))) (b := 0) (n := n) (i := ra i) (Or.inl rfl) pk_us q7 q8 r0
      have e0 : rm i = m0 0 := q6.trans h0.symm
      have e1 : ¬ rm i = m1 0 := by rw [q6, h1]; exact z01
      have r1' : RM reg1 mem1 tz1 tp1 tt1 tb1 a10 a11 (fun k => n2 (174 + k)) := RM_g r1 (fun k hk => b8 (174 + k) (by omega))
      obtain ⟨g1, g2, g3, F', n', g4, g5, g6, g7, g8⟩ := l_bg15 hN h12 h0 h1 hr m (i + 1) fuel fuel' (FX3_beginProcess (rw_ i) (rp i) (ra i) reg0 mem0).2.1 (FX3_beginProcess (rw_ i) (rp i) (ra i) reg0 mem0).2.2 reg1 mem1 (fb (upd F 45 (nI (174 * 0))) z) n2 (by omega) (by omega) (by omega) ((pk_un (by decide)).trans ((pk_un (by decide)).trans h29)) b7 r1'
      rw [OX3_begin_b3, OX3_begin_b3, OX10_begins_b15, FX10_begins_b15, FX3_begin_b3, FX3_begin_b3, if_neg c, if_neg c2, if_neg c, ci, nI_1, if_pos e0, if_neg e1]
      refine ⟨⟨fun z => absurd z c, fun _ => ⟨vi, fun _ => ⟨vi, vi, vi, b1, g1⟩, fun z => absurd e0 z⟩⟩, ⟨fun z => absurd z c, fun _ => ⟨vi, fun z => absurd z e1, fun _ => g2⟩⟩, ?_, F', n', ?_, fun k i1 i2 => (g5 k i1 i2).trans ((pk_un i2).trans (pk_un i1)), g6, g7, fun k hk => (g8 k hk).trans (b8 k (by omega))⟩
      · rw [x0, x1, x2, x3, k0, k1, k2, k3, q1, q2, q3, q4, q6, eb]
        dsimp only
        rw [b4]
        dsimp only
        rw [b6]
        exact ⟨fun z => absurd z c2, fun _ => ⟨v0, v1, v3, b2, v1, v2, b5, g3⟩⟩
      · rw [x0, x1, x2, x3, k0, k1, k2, k3, q1, q2, q3, q4, q6, eb]
        dsimp only
        rw [b4]
        dsimp only
        rw [b6]
        exact g4
    · obtain ⟨b1, b2, z, n1, n2, b3, b4, b5, b6, b7, b8⟩ := p_begin (F := upd F 45 (nI (174 * 1))) (b := 174) (n := n) (i := ra i) (Or.inr rfl) pk_us q7 q8 r1
      have e0 : ¬ rm i = m0 0 := by rw [q6, h0]; exact z10
      have e1 : rm i = m1 0 := q6.trans h1.symm
      have r0' : RM reg0 mem0 tz0 tp0 tt0 tb0 a00 a01 (fun k => n2 (0 + k)) := RM_g r0 (fun k hk => b8 (0 + k) (by omega))
      obtain ⟨g1, g2, g3, F', n', g4, g5, g6, g7, g8⟩ := l_bg15 hN h12 h0 h1 hr m (i + 1) fuel fuel' reg0 mem0 (FX3_beginProcess (rw_ i) (rp i) (ra i) reg1 mem1).2.1 (FX3_beginProcess (rw_ i) (rp i) (ra i) reg1 mem1).2.2 (fb (upd F 45 (nI (174 * 1))) z) n2 (by omega) (by omega) (by omega) ((pk_un (by decide)).trans ((pk_un (by decide)).trans h29)) r0' b7
      rw [OX3_begin_b3, OX3_begin_b3, OX10_begins_b15, FX10_begins_b15, FX3_begin_b3, FX3_begin_b3, if_neg c, if_neg c2, if_neg c, ci, nI_1, if_neg e0, if_pos e1]
      refine ⟨⟨fun z => absurd z c, fun _ => ⟨vi, fun z => absurd z e0, fun _ => g1⟩⟩, ⟨fun z => absurd z c, fun _ => ⟨vi, fun _ => ⟨vi, vi, vi, b1, g2⟩, fun z => absurd e1 z⟩⟩, ?_, F', n', ?_, fun k i1 i2 => (g5 k i1 i2).trans ((pk_un i2).trans (pk_un i1)), g6, g7, fun k hk => (g8 k hk).trans (b8 k (by omega))⟩
      · rw [x0, x1, x2, x3, k0, k1, k2, k3, q1, q2, q3, q4, q6, eb]
        dsimp only
        rw [b4]
        dsimp only
        rw [b6]
        exact ⟨fun z => absurd z c2, fun _ => ⟨v0, v1, v3, b2, v1, v2, b5, g3⟩⟩
      · rw [x0, x1, x2, x3, k0, k1, k2, k3, q1, q2, q3, q4, q6, eb]
        dsimp only
        rw [b4]
        dsimp only
        rw [b6]
        exact g4
end BGR
