/-! PURE: both turns of a pass (GENERATED, wip/gen/p/36.py) -/
/-- a world on both sides -/
def RWd (ra ma za pa ta ba ka la rb mb zb pb tb bb kb lb dia mt wd n : mF) (T : Nat) : Prop := RM ra ma za pa ta ba ka la (fun k => n (0 + k)) ∧ RM rb mb zb pb tb bb kb lb (fun k => n (174 + k)) ∧ RD dia mt n T ∧ n 348 = wd 2
theorem RM_g {reg mem tz tp tt tb l0 l1 g g' : mF} (h : RM reg mem tz tp tt tb l0 l1 g) (hg : ∀ k, k < 174 → g' k = g k) : RM reg mem tz tp tt tb l0 l1 g' := by
  obtain ⟨c1, c2, c3⟩ := h.2.2.2.2.1
  exact RM_cc (x := reg 18) (v := reg 19) h (fun _ _ => rfl) rfl rfl c3 ((hg 96 (by decide)).trans c1) ((hg 97 (by decide)).trans c2) (fun k hk _ _ => hg k hk)
theorem RD_tick {dia mt n : mF} {T : Nat} (h : RD dia mt n T) : RD (upd dia 0 (dia 0 + 1)) mt (upd n 349 (n 349 + 1)) T := by
  obtain ⟨h1, h2, c, h3, h4, h5, h6⟩ := h
  refine ⟨?_, ?_, c, h3, (pk_un (by decide)).trans h4, (pk_un (by decide)).trans h5, fun i j hi hj => (pk_un (by omega)).trans (h6 i j hi hj)⟩
  · rw [pk_us, pk_us, h1]
  · rw [pk_un (by decide), pk_un (by decide)]
    exact h2
section TWO
variable {f n ra ma za pa ta ba ka la rb mb zb pb tb bb kb lb dia mt wd prg op num fop farg a0 d m0 m1 qa qb : mF}
theorem p_two {T : Nat} (hW : RWd ra ma za pa ta ba ka la rb mb zb pb tb bb kb lb dia mt wd n T) (hT : T + 1 < 2 ^ 30) (hP : RPg prg op num f fop farg) (e0 : m0 0 = 0) (e1 : m1 0 = 1) : OX3_pass (wd 2) m0 ra qa ma za pa ta ba ka la (upd dia 0 (dia 0 + 1)) mt prg op num ∧ ∃ P0, P0 = (FX3_pass (wd 2) m0 ra qa ma za pa ta ba ka la (upd dia 0 (dia 0 + 1)) mt prg op num) ∧ OX3_pass (wd 2) m1 rb qb mb zb pb tb bb kb lb P0.2.2.2.2.2.2.2.2.2.2.2.1 P0.2.2.2.2.2.2.2.2.2.2.2.2 prg op num ∧ ∃ P1, P1 = FX3_pass (wd 2) m1 rb qb mb zb pb tb bb kb lb P0.2.2.2.2.2.2.2.2.2.2.2.1 P0.2.2.2.2.2.2.2.2.2.2.2.2 prg op num ∧ OX10_turn 0 f fop farg (upd n 349 (n 349 + 1)) a0 d ∧ ∃ f1 n1 a1 d1, FX10_turn 0 f fop farg (upd n 349 (n 349 + 1)) a0 d = (0, f1, n1, a1, d1) ∧ OX10_turn 1 f1 fop farg n1 a1 d1 ∧ ∃ f2 n2 a2 d2, FX10_turn 1 f1 fop farg n1 a1 d1 = (0, f2, n2, a2, d2) ∧ (∀ k, k ≠ 45 → k ≠ 46 → f2 k = f k) ∧ RWd P0.2.2.1 P0.2.2.2.2.1 P0.2.2.2.2.2.1 P0.2.2.2.2.2.2.1 P0.2.2.2.2.2.2.2.1 P0.2.2.2.2.2.2.2.2.1 P0.2.2.2.2.2.2.2.2.2.1 P0.2.2.2.2.2.2.2.2.2.2.1 P1.2.2.1 P1.2.2.2.2.1 P1.2.2.2.2.2.1 P1.2.2.2.2.2.2.1 P1.2.2.2.2.2.2.2.1 P1.2.2.2.2.2.2.2.2.1 P1.2.2.2.2.2.2.2.2.2.1 P1.2.2.2.2.2.2.2.2.2.2.1 P1.2.2.2.2.2.2.2.2.2.2.2.1 P1.2.2.2.2.2.2.2.2.2.2.2.2 wd n2 (T + 2) ∧ d2 0 = P0.2.1 7 ∧ d2 1 = P1.2.1 7 ∧ (∀ k, 2 ≤ k → d2 k = d k) ∧ (∀ k, k ≠ 7 → P0.2.1 k = m0 k) ∧ ∀ k, k ≠ 7 → P1.2.1 k = m1 k := by
  obtain ⟨hA, hB, hD, hS⟩ := hW
  have hD1 := RD_tick hD
  have s0 : emb 0 (upd n 349 (n 349 + 1)) (fun k => upd n 349 (n 349 + 1) (0 + k)) = upd n 349 (n 349 + 1) := emb_self
  have hA1 : RM ra ma za pa ta ba ka la (fun k => upd n 349 (n 349 + 1) (0 + k)) := RM_g hA (fun k hk => pk_un (by omega))
  obtain ⟨p1, p2, p3⟩ := p_turn (x := 0) (xm := 0) (b := 0) (sl := wd 2) (n := upd n 349 (n 349 + 1)) (d := d) (a0 := a0) (regA := qa) (f := f) vp02 (by decide) (by decide) (Or.inl rfl) e0 hA1 ((pk_un (by decide)).trans hS) (by omega) hD1 hP
  rw [s0] at p2 p3
  obtain ⟨P0, hP0⟩ : ∃ P0, P0 = (FX3_pass (wd 2) m0 ra qa ma za pa ta ba ka la (upd dia 0 (dia 0 + 1)) mt prg op num) := ⟨_, rfl⟩
  rw [← hP0] at p3
  obtain ⟨f1, n', g', a1, d1, q1, q2, q3, q4, q5, q6, q7, q8⟩ := p3
  have hS1 : emb 0 n' g' 348 = wd 2 := by
    rw [emb_out (by omega), q5 348 (by decide) (by omega), pk_un (by decide)]
    exact hS
  have hB1 : RM rb mb zb pb tb bb kb lb (fun k => emb 0 n' g' (174 + k)) := RM_g hB (fun k hk => by
    show emb 0 n' g' (174 + k) = n (174 + k)
    rw [emb_out (by omega), q5 (174 + k) (by omega) (by omega), pk_un (by omega)])
  have hD2 : RD P0.2.2.2.2.2.2.2.2.2.2.2.1 P0.2.2.2.2.2.2.2.2.2.2.2.2 (emb 0 n' g') (T + 1) := RD_c q4 (Nat.le_refl _) (fun k hk => emb_out (by omega))
  have hP1 : RPg prg op num f1 fop farg := by
    obtain ⟨L, l1, l2, l3, l4⟩ := hP
    exact ⟨L, l1, l2, (q2 33 (by decide) (by decide)).trans l3, l4⟩
  have s1 : emb 174 (emb 0 n' g') (fun k => emb 0 n' g' (174 + k)) = emb 0 n' g' := emb_self
  obtain ⟨r1, r2, r3⟩ := p_turn (x := 1) (xm := 1) (b := 174) (sl := wd 2) (n := emb 0 n' g') (d := d1) (a0 := a1) (regA := qb) (f := f1) vp12 (by decide) (by decide) (Or.inr rfl) e1 hB1 hS1 hT hD2 hP1
  rw [s1] at r2 r3
  refine ⟨p1, P0, hP0, r1, _, rfl, p2, f1, emb 0 n' g', a1, d1, q1, r2, ?_⟩
  obtain ⟨P1, hP1'⟩ : ∃ P1, P1 = FX3_pass (wd 2) m1 rb qb mb zb pb tb bb kb lb P0.2.2.2.2.2.2.2.2.2.2.2.1 P0.2.2.2.2.2.2.2.2.2.2.2.2 prg op num := ⟨_, rfl⟩
  rw [← hP1'] at r3 ⊢
  obtain ⟨f2, n2, G2, a2, d2, t1, t2, t3, t4, t5, t6, t7, t8⟩ := r3
  refine ⟨f2, emb 174 n2 G2, a2, d2, t1, fun k h5 h6 => (t2 k h5 h6).trans (q2 k h5 h6), ⟨RM_g q3 (fun k hk => ?_), RM_g t3 (fun k hk => emb_at hk), RD_c t4 (Nat.le_refl _) (fun k hk => emb_out (by omega)), ?_⟩, ?_, t6, fun k hk => (t7 k (by omega)).trans (q7 k (by omega)), q8, t8⟩
  · show emb 174 n2 G2 (0 + k) = g' k
    rw [emb_out (by omega), t5 (0 + k) (by omega) (by omega)]
    exact emb_at hk
  · rw [emb_out (by omega), t5 348 (by decide) (by omega)]
    exact hS1
  · exact (t7 0 (by decide)).trans q6
end TWO
