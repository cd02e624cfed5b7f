/-! PURE: TICKS one behind another (GENERATED, wip/gen/p/56.py) -/
/-- the world of a pass's rows -/
def wOf (W0 : mF) (t : Int32 × mF × mF × mF × mF × mF × mF × mF × mF × mF × mF × mF × mF × mF × mF × mF × mF × mF × mF × mF × mF × mF × mF) : Nat → mF := fun c => match c with
  | 0 => W0
  | 1 => t.2.1
  | 2 => t.2.2.1
  | 3 => t.2.2.2.1
  | 4 => t.2.2.2.2.1
  | 5 => t.2.2.2.2.2.1
  | 6 => t.2.2.2.2.2.2.1
  | 7 => t.2.2.2.2.2.2.2.1
  | 8 => t.2.2.2.2.2.2.2.2.1
  | 9 => t.2.2.2.2.2.2.2.2.2.1
  | 10 => t.2.2.2.2.2.2.2.2.2.2.1
  | 11 => t.2.2.2.2.2.2.2.2.2.2.2.1
  | 12 => t.2.2.2.2.2.2.2.2.2.2.2.2.1
  | 13 => t.2.2.2.2.2.2.2.2.2.2.2.2.2.1
  | 14 => t.2.2.2.2.2.2.2.2.2.2.2.2.2.2.1
  | 15 => t.2.2.2.2.2.2.2.2.2.2.2.2.2.2.2.1
  | 16 => t.2.2.2.2.2.2.2.2.2.2.2.2.2.2.2.2.1
  | 17 => t.2.2.2.2.2.2.2.2.2.2.2.2.2.2.2.2.2.1
  | 18 => t.2.2.2.2.2.2.2.2.2.2.2.2.2.2.2.2.2.2.1
  | 19 => t.2.2.2.2.2.2.2.2.2.2.2.2.2.2.2.2.2.2.2.1
  | 20 => t.2.2.2.2.2.2.2.2.2.2.2.2.2.2.2.2.2.2.2.2.1
  | 21 => t.2.2.2.2.2.2.2.2.2.2.2.2.2.2.2.2.2.2.2.2.2.1
  | 22 => t.2.2.2.2.2.2.2.2.2.2.2.2.2.2.2.2.2.2.2.2.2.2
  | _ => W0
def stp (prg op num sndr slnk rcvr rlnk : mF) (W : Nat → mF) : Nat → mF := wOf (W 0) (FX8_pass (W 0) (W 1) (W 2) (W 3) (W 4) (W 5) (W 6) (W 7) (W 8) (W 9) (W 10) (W 11) (W 12) (W 13) (W 14) (W 15) (W 16) (W 17) (W 18) (W 19) (W 20) (W 21) (W 22) prg op num sndr slnk rcvr rlnk)
theorem WI_c {J T : Nat} {joins n : mF} {W W' : Nat → mF} (h : WI J joins W n T) (e : ∀ c, c < 23 → W' c = W c) : WI J joins W' n T := by
  obtain ⟨h1, h2, h3, h4, h5, h6⟩ := h
  refine ⟨fun m hm => RMw_W (h1 m hm) (fun c a b => e c (by omega)), ?_, ?_, ?_, ?_, fun k s i r j hk hs hi hr hj e1 e2 => ?_⟩
  · rw [e 1 (by decide), e 2 (by decide)]
    exact h2
  · rw [e 0 (by decide)]
    exact h3
  · rw [e 3 (by decide)]
    exact h4
  · rw [e 13 (by decide)]
    exact h5
  · rw [e _ (by omega), e _ (by omega)]
    exact h6 k s i r j hk hs hi hr hj e1 e2
theorem wOf_t {W : Nat → mF} : ∀ c, c < 23 → wOf (W 0) (tP W) c = W c := by
  intro c hc
  rcases (show c = 0 ∨ c = 1 ∨ c = 2 ∨ c = 3 ∨ c = 4 ∨ c = 5 ∨ c = 6 ∨ c = 7 ∨ c = 8 ∨ c = 9 ∨ c = 10 ∨ c = 11 ∨ c = 12 ∨ c = 13 ∨ c = 14 ∨ c = 15 ∨ c = 16 ∨ c = 17 ∨ c = 18 ∨ c = 19 ∨ c = 20 ∨ c = 21 ∨ c = 22 by omega) with rfl | rfl | rfl | rfl | rfl | rfl | rfl | rfl | rfl | rfl | rfl | rfl | rfl | rfl | rfl | rfl | rfl | rfl | rfl | rfl | rfl | rfl | rfl <;> rfl
/-- the program on both sides -/
def PC (J : Nat) (prg op num sndr slnk rcvr rlnk f fop farg joins : mF) : Prop := RPg prg op num f fop farg ∧ RJs J prg sndr slnk rcvr rlnk f joins
theorem PC_f {J : Nat} {prg op num sndr slnk rcvr rlnk f f' fop farg joins : mF} (h : PC J prg op num sndr slnk rcvr rlnk f fop farg joins) (e3 : f' 33 = f 33) (e5 : f' 35 = f 35) : PC J prg op num sndr slnk rcvr rlnk f' fop farg joins := by
  obtain ⟨⟨L, a1, a2, a3, a4⟩, b1, b2, b3, b4⟩ := h
  exact ⟨⟨L, a1, a2, e3.trans a3, a4⟩, b1, b2, e5.trans b3, b4⟩
section STP
variable {W : Nat → mF} {prg op num sndr slnk rcvr rlnk f fop farg joins n a0 d : mF} {J T : Nat}
theorem p_stp (hW : WI J joins W n T) (hT : T + 6 < 2 ^ 30) (hC : PC J prg op num sndr slnk rcvr rlnk f fop farg joins) : OX8_pass (W 0) (W 1) (W 2) (W 3) (W 4) (W 5) (W 6) (W 7) (W 8) (W 9) (W 10) (W 11) (W 12) (W 13) (W 14) (W 15) (W 16) (W 17) (W 18) (W 19) (W 20) (W 21) (W 22) prg op num sndr slnk rcvr rlnk ∧ OX10_passes f fop farg joins n a0 d ∧ FX8_pass (W 0) (W 1) (W 2) (W 3) (W 4) (W 5) (W 6) (W 7) (W 8) (W 9) (W 10) (W 11) (W 12) (W 13) (W 14) (W 15) (W 16) (W 17) (W 18) (W 19) (W 20) (W 21) (W 22) prg op num sndr slnk rcvr rlnk = tP (stp prg op num sndr slnk rcvr rlnk W) ∧ ∃ f' n' a' d', FX10_passes f fop farg joins n a0 d = (0, f', n', a', d') ∧ PC J prg op num sndr slnk rcvr rlnk f' fop farg joins ∧ (∀ k, k ≠ 45 → k ≠ 46 → f' k = f k) ∧ WI J joins (stp prg op num sndr slnk rcvr rlnk W) n' (T + 6) ∧ d' 0 = stp prg op num sndr slnk rcvr rlnk W 3 7 ∧ d' 1 = stp prg op num sndr slnk rcvr rlnk W 13 7 ∧ (∀ k, 2 ≤ k → d' k = d k) ∧ stp prg op num sndr slnk rcvr rlnk W 0 = W 0 := by
  obtain ⟨h1, h2, W', f', n', a', d', h3, h4, h5, h6, h7, h8, h9, h10⟩ := p_pass (a0 := a0) (d := d) hW hT hC.1 hC.2
  have es : ∀ c, c < 23 → stp prg op num sndr slnk rcvr rlnk W c = W' c := by
    intro c hc
    unfold stp
    rw [h3, ← h10]
    exact wOf_t c hc
  have et : tP W' = tP (stp prg op num sndr slnk rcvr rlnk W) := by
    unfold tP
    rw [es 1 (by decide), es 2 (by decide), es 3 (by decide), es 4 (by decide), es 5 (by decide), es 6 (by decide), es 7 (by decide), es 8 (by decide), es 9 (by decide), es 10 (by decide), es 11 (by decide), es 12 (by decide), es 13 (by decide), es 14 (by decide), es 15 (by decide), es 16 (by decide), es 17 (by decide), es 18 (by decide), es 19 (by decide), es 20 (by decide), es 21 (by decide), es 22 (by decide)]
  exact ⟨h1, h2, h3.trans et, f', n', a', d', h4, PC_f hC (h5 33 (by decide) (by decide)) (h5 35 (by decide) (by decide)), h5, WI_c h6 es, by rw [es 3 (by decide)]; exact h7, by rw [es 13 (by decide)]; exact h8, h9, rfl⟩
/-- so many passes -/
def seq (prg op num sndr slnk rcvr rlnk : mF) : Nat → (Nat → mF) → Nat → mF
  | 0, W => W
  | m + 1, W => seq prg op num sndr slnk rcvr rlnk m (stp prg op num sndr slnk rcvr rlnk W)
theorem seq_0 : ∀ (m : Nat) (W : Nat → mF), seq prg op num sndr slnk rcvr rlnk m W 0 = W 0
  | 0, _ => rfl
  | m + 1, W => (seq_0 m (stp prg op num sndr slnk rcvr rlnk W)).trans rfl
theorem l_tick9 {N y : Int32} {M : Nat} (hN : N = nI M) (hM : M ≤ 300) : ∀ (m i fuel : Nat) (W : Nat → mF) (n f : mF) (T : Nat), i + m = M → m < fuel → WI J joins W n T → T + 6 * m < 2 ^ 30 → PC J prg op num sndr slnk rcvr rlnk f fop farg joins → OX9_tick_b3 fuel N y (nI i) (W 0) (W 1) (W 2) (W 3) (W 4) (W 5) (W 6) (W 7) (W 8) (W 9) (W 10) (W 11) (W 12) (W 13) (W 14) (W 15) (W 16) (W 17) (W 18) (W 19) (W 20) (W 21) (W 22) prg op num sndr slnk rcvr rlnk ∧ FX9_tick_b3 fuel N y (nI i) (W 0) (W 1) (W 2) (W 3) (W 4) (W 5) (W 6) (W 7) (W 8) (W 9) (W 10) (W 11) (W 12) (W 13) (W 14) (W 15) (W 16) (W 17) (W 18) (W 19) (W 20) (W 21) (W 22) prg op num sndr slnk rcvr rlnk = (tP (seq prg op num sndr slnk rcvr rlnk m W)).2
  | _, _, 0, _, _, _, _, _, h, _, _, _ => absurd h (Nat.not_lt_zero _)
  | 0, i, fuel + 1, W, n, f, T, h, _, _, _, _ => by
    have c : N ≤ nI i := by
      rw [hN]
      exact nI_le (by omega) (by omega)
    rw [OX9_tick_b3, FX9_tick_b3, if_pos c]
    exact ⟨⟨fun _ => trivial, fun q => absurd c q⟩, rfl⟩
  | m + 1, i, fuel + 1, W, n, f, T, h, hf, hW, hT, hC => by
    have c : ¬ N ≤ nI i := by
      rw [hN]
      exact nI_ge (by omega) (by omega)
    obtain ⟨h1, -, h3, f', n', a', d', -, h5, -, h7, -, -, -, h11⟩ := p_stp (a0 := f) (d := f) hW (by omega) hC
    obtain ⟨i1, i2⟩ := l_tick9 hN hM m (i + 1) fuel (stp prg op num sndr slnk rcvr rlnk W) n' f' (T + 6) (by omega) (by omega) h7 (by omega) h5
    rw [OX9_tick_b3, FX9_tick_b3, if_neg c, h3, nI_1]
    rw [h11] at i1 i2
    exact ⟨⟨fun q => absurd q c, fun _ => ⟨h1, i1⟩⟩, i2⟩
theorem l_tick10 {N y : Int32} {M : Nat} (hN : N = nI M) (hM : M ≤ 300) : ∀ (m i fuel : Nat) (W : Nat → mF) (n f a d : mF) (T : Nat), i + m = M → m < fuel → WI J joins W n T → T + 6 * m < 2 ^ 30 → PC J prg op num sndr slnk rcvr rlnk f fop farg joins → OX10_tick_b2 fuel N y (nI i) f fop farg joins n a d ∧ ∃ f' n' a' d', FX10_tick_b2 fuel N y (nI i) f fop farg joins n a d = (f', n', a', d') ∧ PC J prg op num sndr slnk rcvr rlnk f' fop farg joins ∧ (∀ k, k ≠ 45 → k ≠ 46 → f' k = f k) ∧ WI J joins (seq prg op num sndr slnk rcvr rlnk m W) n' (T + 6 * m)
  | _, _, 0, _, _, _, _, _, _, _, h, _, _, _ => absurd h (Nat.not_lt_zero _)
  | 0, i, fuel + 1, W, n, f, a, d, T, h, _, hW, _, hC => by
    have c : N ≤ nI i := by
      rw [hN]
      exact nI_le (by omega) (by omega)
    rw [OX10_tick_b2, FX10_tick_b2, if_pos c]
    exact ⟨⟨fun _ => trivial, fun q => absurd c q⟩, f, n, a, d, rfl, hC, fun _ _ _ => rfl, hW⟩
  | m + 1, i, fuel + 1, W, n, f, a, d, T, h, hf, hW, hT, hC => by
    have c : ¬ N ≤ nI i := by
      rw [hN]
      exact nI_ge (by omega) (by omega)
    obtain ⟨-, h2, -, f1, n1, a1, d1, h4, h5, h6, h7, -⟩ := p_stp (a0 := a) (d := d) hW (by omega) hC
    obtain ⟨i1, f', n', a', d', i2, i3, i4, i5⟩ := l_tick10 hN hM m (i + 1) fuel (stp prg op num sndr slnk rcvr rlnk W) n1 f1 a1 d1 (T + 6) (by omega) (by omega) h7 (by omega) h5
    rw [OX10_tick_b2, FX10_tick_b2, if_neg c, h4, nI_1]
    exact ⟨⟨fun q => absurd q c, fun _ => ⟨h2, i1⟩⟩, f', n', a', d', i2, i3, fun k x y => (i4 k x y).trans (h6 k x y), WI_T i5 (by omega)⟩
end STP
