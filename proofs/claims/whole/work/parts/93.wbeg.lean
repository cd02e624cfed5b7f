/-! PURE: a World begun on both sides (GENERATED, wip/gen/p/93.py) -/
section BGW
variable {W : Nat → mF} {prg rm rw_ rp ra mem rruns rmem f n : mF} {N : Nat}
def wB (W : Nat → mF) (x0 x1 r0 e0 t0 a0 b0 r1 e1 t1 a1 b1 : mF) : Nat → mF := fun k => match k with
  | 0 => x0
  | 1 => x1
  | 4 => r0
  | 6 => e0
  | 7 => t0
  | 11 => a0
  | 12 => b0
  | 14 => r1
  | 16 => e1
  | 17 => t1
  | 21 => a1
  | 22 => b1
  | k => W k
theorem bk0_m {mem mem' g : mF} (h : bk0 mem g) (e : ∀ k, k < 96 → mem k = mem' k) : bk0 mem' g := ⟨fun k hk => (h.1 k hk).trans (e k hk), h.2⟩
theorem p_wbegins (h3 : W 3 0 = 0) (h13 : W 13 0 = 1) (hb0 : ∀ k, k < 12 → (W 10 k = 0 ∨ W 10 k = 1)) (hb1 : ∀ k, k < 12 → (W 20 k = 0 ∨ W 20 k = 1)) (hN : N ≤ 12) (h12 : prg 12 = nI N) (h29 : f 29 = nI N) (hp : prg 0 = f 31) (hm : ∀ k, k < 192 → rmem k = mem k) (hr : RNf N rm rw_ rp ra rruns) : OX8_begin (W 0) (W 1) (W 3) (W 4) (W 6) (W 7) (W 11) (W 12) (W 13) (W 14) (W 16) (W 17) (W 21) (W 22) prg rm rw_ rp ra mem ∧ OX10_begins_b7 10000 0 n ∧ OX10_begins_b9 10000 0 f rmem (upd (FX10_begins_b7 10000 0 n) 348 (f 31)) ∧ ∃ (f1 n1 : mF), FX10_begins_b9 10000 0 f rmem (upd (FX10_begins_b7 10000 0 n) 348 (f 31)) = (f1, n1) ∧ OX10_begins_b15 10000 0 f1 rruns n1 ∧ ∃ (f2 n2 x0 x1 r0 e0 t0 a0 b0 r1 e1 t1 a1 b1 : mF), FX10_begins_b15 10000 0 f1 rruns n1 = (f2, n2) ∧ FX8_begin (W 0) (W 1) (W 3) (W 4) (W 6) (W 7) (W 11) (W 12) (W 13) (W 14) (W 16) (W 17) (W 21) (W 22) prg rm rw_ rp ra mem = (0, x0, x1, r0, e0, t0, a0, b0, r1, e1, t1, a1, b1) ∧ (∀ k, k ≠ 45 → k ≠ 46 → f2 k = f k) ∧ RW2 (wB W x0 x1 r0 e0 t0 a0 b0 r1 e1 t1 a1 b1) n2 ∧ RD x1 (W 2) n2 0 ∧ n2 348 = x0 2 ∧ lke a0 ∧ lke b0 ∧ lke a1 ∧ lke b1 := by
  obtain ⟨a1, a2⟩ := l_bg7 532 0 10000 n (by decide) (by decide)
  rw [nI_0] at a1 a2
  generalize FX10_begins_b7 10000 0 n = nz at *
  have hz : ∀ k, k < 348 → upd nz 348 (f 31) k = 0 := fun k hk => by
    rw [pk_un (by omega), a2 k (by omega), if_pos (Nat.zero_le _)]
  obtain ⟨b1, f1, n1, b2, b3, b4, b5⟩ := l_bg9 (f := f) (rm := rmem) hz
  obtain ⟨c1, c2, c3⟩ := bg_reg (W 4)
  obtain ⟨d1, d2, d3⟩ := bg_reg (W 14)
  obtain ⟨la, la1, la2⟩ := bg_link (W 11)
  obtain ⟨lb, lb1, lb2⟩ := bg_link (W 12)
  obtain ⟨lc, lc1, lc2⟩ := bg_link (W 21)
  obtain ⟨ld, ld1, ld2⟩ := bg_link (W 22)
  have s0 : ((W 3 0 * 96 : Int32).toNatClampNeg) = 0 := by rw [h3]; decide
  have s1 : ((W 13 0 * 96 : Int32).toNatClampNeg) = 96 := by rw [h13]; decide
  have m0 : ∀ k, k < 96 → rmem (96 * 0 + k) = va_cpy mem (W 6) 0 0 96 k := fun k hk => by
    rw [pk_cpy_in (Nat.zero_le _) (by omega), hm _ (by omega)]
    congr 1
  have m1 : ∀ k, k < 96 → rmem (96 * 1 + k) = va_cpy mem (W 16) 96 0 96 k := fun k hk => by
    rw [pk_cpy_in (Nat.zero_le _) (by omega), hm _ (by omega)]
    congr 1
  have R0 := rme (tz := upd (W 7) 0 0) (tp := W 8) (tt := W 9) c3 pk_us hb0 la2 lb2 (bk0_m (b4 0 (by decide)) m0)
  have R1 := rme (tz := upd (W 17) 0 0) (tp := W 18) (tt := W 19) d3 pk_us hb1 lc2 ld2 (bk0_m (b4 1 (by decide)) m1)
  obtain ⟨g1, g2, g3, f2, n2, g4, g5, g6, g7, g8⟩ := l_bg15 hN h12 h3 h13 hr N 0 10000 10000 _ _ _ _ f1 n1 (by omega) (by omega) (by omega) ((b3 29 (by decide)).trans h29) R0 R1
  rw [nI_0] at g1 g2 g3 g4 g6 g7
  obtain ⟨q0, e0⟩ : ∃ q, FX3_begin_b3 10000 0 (W 3) (FX3_begin_b1 10000 0 (upd (upd (FJ_fill_20 0 (W 4)).2 4 (-1)) 11 (-1))) (va_cpy mem (W 6) 0 0 96) prg rm rw_ rp ra = q := ⟨_, rfl⟩
  obtain ⟨q1, e1⟩ : ∃ q, FX3_begin_b3 10000 0 (W 13) (FX3_begin_b1 10000 0 (upd (upd (FJ_fill_20 0 (W 14)).2 4 (-1)) 11 (-1))) (va_cpy mem (W 16) 96 0 96) prg rm rw_ rp ra = q := ⟨_, rfl⟩
  rw [e0] at g6
  rw [e1] at g7
  have u0 : ¬ (W 3 0 * 96 : Int32) < 0 := by rw [h3]; decide
  have u1 : ¬ (W 13 0 * 96 : Int32) < 0 := by rw [h13]; decide
  have n349 : ∀ k, 349 ≤ k → k < 532 → n2 k = 0 := fun k h1 h2 => by
    rw [g8 k (by omega), b5 k (by omega), pk_un (by omega), a2 k (by omega), if_pos (Nat.zero_le _)]
  refine ⟨?_, a1, b1, f1, n1, b2, g3, f2, n2, upd (W 0) 2 (prg 0), upd (upd (W 1) 0 0) 1 0, q0.1, q0.2, upd (W 7) 0 0, la, lb, q1.1, q1.2, upd (W 17) 0 0, lc, ld, g4, ?_, fun k i1 i2 => (g5 k i1 i2).trans (b3 k i1), ?_, ?_, ?_, la2, lb2, lc2, ld2⟩
  rotate_left
  · unfold FX8_begin FX3_begin FX0_empty
    dsimp only
    rw [la1, lb1, lc1, ld1, s0, s1, e0, e1]
  · intro mm hmm
    rcases (show mm = 0 ∨ mm = 1 by omega) with rfl | rfl
    · exact g6
    · exact g7
  · refine ⟨(n349 349 (by decide) (by decide)).trans ((pk_un (by decide)).trans pk_us).symm, (n349 350 (by decide) (by decide)).trans pk_us.symm, 0, Nat.le_refl _, pk_us, n349 351 (by decide) (by decide), fun i j hi => absurd hi (by omega)⟩
  · rw [g8 348 (by decide), b5 348 (by decide), pk_us, pk_us, hp]
  · unfold OX8_begin OX3_begin
    rw [s0, s1]
    exact ⟨⟨c1, c2, u0, by omega, g1⟩, d1, d2, u1, by omega, g2⟩
end BGW
