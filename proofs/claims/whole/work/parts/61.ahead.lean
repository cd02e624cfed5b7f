/-! PURE: what will be, first (GENERATED, wip/gen/p/61.py) -/
def sK (prg sndr slnk rcvr rlnk : mF) (W : Nat → mF) : Int32 := FX8_isStuck (W 4) (W 7) (W 11) (W 12) (W 14) (W 17) (W 21) (W 22) prg sndr slnk rcvr rlnk
def hB (W : Nat → mF) : Int32 := FX8_haltedBits (W 4) (W 14)
def sof (prg sndr slnk rcvr rlnk : mF) (y : Int32) (W : Nat → mF) : Int32 := FX9_isSoFirst y (W 4) (W 7) (W 11) (W 12) (W 14) (W 17) (W 21) (W 22) prg sndr slnk rcvr rlnk
/-- behind how many passes something is so first -/
def frs (prg op num sndr slnk rcvr rlnk : mF) (p : (Nat → mF) → Int32) : Nat → Nat → (Nat → mF) → Int32
  | 0, _, _ => -2
  | m + 1, i, W => if p (stp prg op num sndr slnk rcvr rlnk W) = 0 then frs prg op num sndr slnk rcvr rlnk p m (i + 1) (stp prg op num sndr slnk rcvr rlnk W) else nI i
theorem frs_c {prg op num sndr slnk rcvr rlnk : mF} {p q : (Nat → mF) → Int32} (h : ∀ W, p W = 0 ↔ q W = 0) : ∀ (m i : Nat) (W : Nat → mF), frs prg op num sndr slnk rcvr rlnk p m i W = frs prg op num sndr slnk rcvr rlnk q m i W
  | 0, _, _ => rfl
  | m + 1, i, W => by
    unfold frs
    rw [frs_c h m (i + 1) (stp prg op num sndr slnk rcvr rlnk W)]
    by_cases c : p (stp prg op num sndr slnk rcvr rlnk W) = 0
    · rw [if_pos c, if_pos ((h _).mp c)]
    · rw [if_neg c, if_neg (fun z => c ((h _).mpr z))]
theorem frs_0 {prg op num sndr slnk rcvr rlnk : mF} {p : (Nat → mF) → Int32} (h : ∀ W, p W = 0) : ∀ (m i : Nat) (W : Nat → mF), frs prg op num sndr slnk rcvr rlnk p m i W = -2
  | 0, _, _ => rfl
  | m + 1, i, W => by
    unfold frs
    rw [if_pos (h _)]
    exact frs_0 h m (i + 1) (stp prg op num sndr slnk rcvr rlnk W)
theorem nIm2 {i : Nat} (hi : i < 2 ^ 31) : ¬ nI i = -2 := fun h => nI_pos hi (by rw [h]; decide)
theorem hB_v {W : Nat → mF} : hB W = 0 ∨ (¬ hB W = 0 ∧ ¬ hB W ≤ 0) := by
  unfold hB FX8_haltedBits
  dsimp only
  split
  · split
    · exact Or.inl (by decide)
    · exact Or.inr (by decide)
  · split
    · exact Or.inr (by decide)
    · exact Or.inr (by decide)
theorem p_aside {n as : mF} : OX10_putsAside n as ∧ ∃ as', FX10_putsAside n as = (0, as') ∧ ∀ k, k < 532 → as' k = n k := by
  obtain ⟨q1, q2⟩ := cp_aside (now := n) 532 0 10000 as (by decide) (by decide)
  rw [nI_0] at q1 q2
  refine ⟨q1, _, congrArg (fun v => ((0 : Int32), v)) q2, fun k hk => if_pos ⟨Nat.zero_le _, hk⟩⟩
theorem p_cback {n as : mF} : OX10_comesBack n as ∧ ∃ n', FX10_comesBack n as = (0, n') ∧ ∀ k, k < 532 → n' k = as k := by
  obtain ⟨q1, q2⟩ := cp_back (aside := as) 532 0 10000 n (by decide) (by decide)
  rw [nI_0] at q1 q2
  refine ⟨q1, _, congrArg (fun v => ((0 : Int32), v)) q2, fun k hk => if_pos ⟨Nat.zero_le _, hk⟩⟩
section AHD
variable {prg op num sndr slnk rcvr rlnk f fop farg joins : mF} {J : Nat}
theorem sof_2 (W : Nat → mF) : sof prg sndr slnk rcvr rlnk 2 W = 0 ↔ sK prg sndr slnk rcvr rlnk W = 0 := by
  unfold sof sK FX9_isSoFirst
  rw [if_pos rfl]
  dsimp only
  split
  · rename_i c
    rw [if_neg (by decide)]
    exact ⟨fun _ => c, fun _ => rfl⟩
  · rename_i c
    exact ⟨fun h => absurd h (by decide), fun h => absurd h c⟩
theorem sof_3 (W : Nat → mF) : sof prg sndr slnk rcvr rlnk 3 W = 0 ↔ hB W = 0 := by
  unfold sof hB FX9_isSoFirst
  rw [if_neg (by decide), if_pos rfl]
  dsimp only
  split
  · rename_i c
    exact ⟨fun _ => c, fun _ => rfl⟩
  · rename_i c
    exact ⟨fun h => absurd h (by decide), fun h => absurd h c⟩
theorem sof_01 {y : Int32} (h2 : ¬ y = 2) (h3 : ¬ y = 3) (W : Nat → mF) : sof prg sndr slnk rcvr rlnk y W = 0 := by
  unfold sof FX9_isSoFirst
  rw [if_neg h2, if_neg h3]
theorem osof {y : Int32} {W : Nat → mF} {n : mF} (hR : RW2 W n) (hC : RJs J prg sndr slnk rcvr rlnk f joins) : OX9_isSoFirst y (W 4) (W 7) (W 11) (W 12) (W 14) (W 17) (W 21) (W 22) prg sndr slnk rcvr rlnk := ⟨fun _ => (p_stuck hR hC).1, fun _ => trivial⟩
theorem ah_stop {fuel : Nat} {N y2 y3 y4 : Int32} {W : Nat → mF} (h : ¬ y3 = -2) : OX9_ahead_b5 (fuel + 1) N y2 y3 y4 (W 0) (W 1) (W 2) (W 3) (W 4) (W 5) (W 6) (W 7) (W 8) (W 9) (W 10) (W 11) (W 12) (W 13) (W 14) (W 15) (W 16) (W 17) (W 18) (W 19) (W 20) (W 21) (W 22) prg op num sndr slnk rcvr rlnk ∧ FX9_ahead_b5 (fuel + 1) N y2 y3 y4 (W 0) (W 1) (W 2) (W 3) (W 4) (W 5) (W 6) (W 7) (W 8) (W 9) (W 10) (W 11) (W 12) (W 13) (W 14) (W 15) (W 16) (W 17) (W 18) (W 19) (W 20) (W 21) (W 22) prg op num sndr slnk rcvr rlnk = (y3, W 1, W 2, W 3, W 4, W 5, W 6, W 7, W 8, W 9, W 10, W 11, W 12, W 13, W 14, W 15, W 16, W 17, W 18, W 19, W 20, W 21, W 22) := by
  rw [OX9_ahead_b5, FX9_ahead_b5]
  refine ⟨⟨fun _ => trivial, fun _ => ⟨fun q => absurd q h, fun _ => trivial⟩⟩, ?_⟩
  split <;> rfl
theorem l_ahead9 {N y2 : Int32} {M : Nat} (hN : N = nI M) (hM : M ≤ 300) : ∀ (m i fuel : Nat) (W : Nat → mF) (n f : mF) (T : Nat), i + m = M + 1 → m + 1 < fuel → WI J joins W n T → T + 6 * m < 2 ^ 30 → PC J prg op num sndr slnk rcvr rlnk f fop farg joins → OX9_ahead_b5 fuel N y2 (-2) (nI i) (W 0) (W 1) (W 2) (W 3) (W 4) (W 5) (W 6) (W 7) (W 8) (W 9) (W 10) (W 11) (W 12) (W 13) (W 14) (W 15) (W 16) (W 17) (W 18) (W 19) (W 20) (W 21) (W 22) prg op num sndr slnk rcvr rlnk ∧ ∃ W', FX9_ahead_b5 fuel N y2 (-2) (nI i) (W 0) (W 1) (W 2) (W 3) (W 4) (W 5) (W 6) (W 7) (W 8) (W 9) (W 10) (W 11) (W 12) (W 13) (W 14) (W 15) (W 16) (W 17) (W 18) (W 19) (W 20) (W 21) (W 22) prg op num sndr slnk rcvr rlnk = (frs prg op num sndr slnk rcvr rlnk (sof prg sndr slnk rcvr rlnk y2) m i W, W' 1, W' 2, W' 3, W' 4, W' 5, W' 6, W' 7, W' 8, W' 9, W' 10, W' 11, W' 12, W' 13, W' 14, W' 15, W' 16, W' 17, W' 18, W' 19, W' 20, W' 21, W' 22) ∧ W' 0 = W 0 ∧ W' 3 0 = 0 ∧ W' 13 0 = 1 ∧ (frs prg op num sndr slnk rcvr rlnk (sof prg sndr slnk rcvr rlnk y2) m i W = -2 → W' = seq prg op num sndr slnk rcvr rlnk m W)
  | _, _, 0, _, _, _, _, _, h, _, _, _ => absurd h (Nat.not_lt_zero _)
  | 0, i, fuel + 1, W, n, f, T, h, _, hW, _, _ => by
    have c : N < nI i := by
      rw [hN]
      exact nI_lt (by omega) (by omega)
    rw [OX9_ahead_b5, FX9_ahead_b5, if_pos c]
    exact ⟨⟨fun _ => trivial, fun q => absurd c q⟩, W, rfl, rfl, hW.2.2.2.1, hW.2.2.2.2.1, fun _ => rfl⟩
  | m + 1, i, fuel + 1, W, n, f, T, h, hf, hW, hT, hC => by
    have c : ¬ N < nI i := by
      rw [hN]
      exact nI_nlt (by omega) (by omega)
    obtain ⟨h1, -, h3, f', n', a', d', -, h5, -, h7, -, -, -, h11⟩ := p_stp (a0 := f) (d := f) hW (by omega) hC
    have os := osof (y := y2) h7.1 h5.2
    rw [OX9_ahead_b5, FX9_ahead_b5, if_neg c, if_pos rfl, h3, nI_1]
    by_cases cs : sof prg sndr slnk rcvr rlnk y2 (stp prg op num sndr slnk rcvr rlnk W) = 0
    · obtain ⟨i1, W', i2, i3, i4, i5, i6⟩ := l_ahead9 (y2 := y2) hN hM m (i + 1) fuel (stp prg op num sndr slnk rcvr rlnk W) n' f' (T + 6) (by omega) (by omega) h7 (by omega) h5
      rw [h11] at i1 i2 i3
      have ef : frs prg op num sndr slnk rcvr rlnk (sof prg sndr slnk rcvr rlnk y2) (m + 1) i W = frs prg op num sndr slnk rcvr rlnk (sof prg sndr slnk rcvr rlnk y2) m (i + 1) (stp prg op num sndr slnk rcvr rlnk W) := if_pos cs
      rw [ef]
      refine ⟨⟨fun q => absurd q c, fun _ => ⟨fun _ => ⟨h1, os, fun _ => i1, fun q => absurd cs q⟩, fun q => absurd rfl q⟩⟩, W', (if_pos cs).trans i2, i3, i4, i5, i6⟩
    · have ef : frs prg op num sndr slnk rcvr rlnk (sof prg sndr slnk rcvr rlnk y2) (m + 1) i W = nI i := if_neg cs
      have ni : ¬ nI i = -2 := nIm2 (by omega)
      obtain ⟨fuel, rfl⟩ : ∃ k, fuel = k + 1 := ⟨fuel - 1, by omega⟩
      obtain ⟨i1, i2⟩ := ah_stop (fuel := fuel) (N := N) (y2 := y2) (y3 := nI i) (y4 := nI (i + 1)) (W := stp prg op num sndr slnk rcvr rlnk W) (prg := prg) (op := op) (num := num) (sndr := sndr) (slnk := slnk) (rcvr := rcvr) (rlnk := rlnk) ni
      rw [h11] at i1 i2
      rw [ef]
      refine ⟨⟨fun q => absurd q c, fun _ => ⟨fun _ => ⟨h1, os, fun q => absurd q cs, fun _ => i1⟩, fun q => absurd rfl q⟩⟩, stp prg op num sndr slnk rcvr rlnk W, (if_neg cs).trans i2, h11, h7.2.2.2.1, h7.2.2.2.2.1, fun q => absurd q ni⟩
theorem l_ahead10 {N y2 : Int32} {M : Nat} (hN : N = nI M) (hM : M ≤ 300) : ∀ (m i fuel : Nat) (W : Nat → mF) (n f a d : mF) (T : Nat) (y3 y4 : Int32), i + m = M + 1 → m < fuel → WI J joins W n T → T + 6 * m < 2 ^ 30 → PC J prg op num sndr slnk rcvr rlnk f fop farg joins → OX10_ahead_b7 fuel N y2 y3 y4 (nI i) f fop farg joins n a d ∧ ∃ f' n' a' d', FX10_ahead_b7 fuel N y2 y3 y4 (nI i) f fop farg joins n a d = ((if y3 = -2 then frs prg op num sndr slnk rcvr rlnk (sK prg sndr slnk rcvr rlnk) m i W else y3), (if y4 = -2 then frs prg op num sndr slnk rcvr rlnk hB m i W else y4), f', n', a', d') ∧ FE f f' ∧ WI J joins (seq prg op num sndr slnk rcvr rlnk m W) n' (T + 6 * m)
  | _, _, 0, _, _, _, _, _, _, _, _, _, h, _, _, _ => absurd h (Nat.not_lt_zero _)
  | 0, i, fuel + 1, W, n, f, a, d, T, y3, y4, h, _, hW, _, hC => by
    have c : N < nI i := by
      rw [hN]
      exact nI_lt (by omega) (by omega)
    rw [OX10_ahead_b7, FX10_ahead_b7, if_pos c]
    refine ⟨⟨fun _ => trivial, fun q => absurd c q⟩, f, n, a, d, ?_, FE_r, hW⟩
    have e3 : (if y3 = -2 then frs prg op num sndr slnk rcvr rlnk (sK prg sndr slnk rcvr rlnk) 0 i W else y3) = y3 := by
      split
      · rename_i e
        rw [e]
        rfl
      · rfl
    have e4 : (if y4 = -2 then frs prg op num sndr slnk rcvr rlnk hB 0 i W else y4) = y4 := by
      split
      · rename_i e
        rw [e]
        rfl
      · rfl
    rw [e3, e4]
  | m + 1, i, fuel + 1, W, n, f, a, d, T, y3, y4, h, hf, hW, hT, hC => by
    have c : ¬ N < nI i := by
      rw [hN]
      exact nI_nlt (by omega) (by omega)
    have ni : ¬ nI i = -2 := nIm2 (by omega)
    obtain ⟨-, h2, -, f1, n1, a1, d1, h4, h5, h6, h7, -⟩ := p_stp (a0 := a) (d := d) hW (by omega) hC
    have hh : FX10_halted n1 = hB (stp prg op num sndr slnk rcvr rlnk W) := (q_halted (h7.1 0 (by decide)) (h7.1 1 (by decide))).symm
    obtain ⟨-, k2, f2, k3, k4⟩ := p_stuck h7.1 h5.2
    have k3 : FX10_isStuck f1 joins n1 = (sK prg sndr slnk rcvr rlnk (stp prg op num sndr slnk rcvr rlnk W), f2) := k3
    have hC2 : PC J prg op num sndr slnk rcvr rlnk f2 fop farg joins := PC_f h5 (k4 33 (by decide)) (k4 35 (by decide))
    have IH := fun (f0 : mF) (hC0 : PC J prg op num sndr slnk rcvr rlnk f0 fop farg joins) (r3 r4 : Int32) => l_ahead10 (y2 := y2) hN hM m (i + 1) fuel (stp prg op num sndr slnk rcvr rlnk W) n1 f0 a1 d1 (T + 6) r3 r4 (by omega) (by omega) h7 (by omega) hC0
    have f1E : FE f f1 := fun k _ x y => h6 k x y
    have f2E : FE f f2 := fun k x y z => (k4 k y).trans (f1E k x y z)
    -- the four new counts
    have a3 : ∀ r3, (y3 = -2 → sK prg sndr slnk rcvr rlnk (stp prg op num sndr slnk rcvr rlnk W) = 0 → r3 = -2) → (y3 = -2 → ¬ sK prg sndr slnk rcvr rlnk (stp prg op num sndr slnk rcvr rlnk W) = 0 → r3 = nI i) → (¬ y3 = -2 → r3 = y3) → (if r3 = -2 then frs prg op num sndr slnk rcvr rlnk (sK prg sndr slnk rcvr rlnk) m (i + 1) (stp prg op num sndr slnk rcvr rlnk W) else r3) = (if y3 = -2 then frs prg op num sndr slnk rcvr rlnk (sK prg sndr slnk rcvr rlnk) (m + 1) i W else y3) := by
      intro r3 q1 q2 q3
      by_cases c3 : y3 = -2
      · rw [if_pos c3]
        by_cases cs : sK prg sndr slnk rcvr rlnk (stp prg op num sndr slnk rcvr rlnk W) = 0
        · rw [q1 c3 cs, if_pos rfl]
          exact (if_pos cs).symm
        · rw [q2 c3 cs, if_neg ni]
          exact (if_neg cs).symm
      · rw [if_neg c3, q3 c3, if_neg c3]
    have a4 : ∀ r4, (y4 = -2 → hB (stp prg op num sndr slnk rcvr rlnk W) = 0 → r4 = -2) → (y4 = -2 → ¬ hB (stp prg op num sndr slnk rcvr rlnk W) = 0 → r4 = nI i) → (¬ y4 = -2 → r4 = y4) → (if r4 = -2 then frs prg op num sndr slnk rcvr rlnk hB m (i + 1) (stp prg op num sndr slnk rcvr rlnk W) else r4) = (if y4 = -2 then frs prg op num sndr slnk rcvr rlnk hB (m + 1) i W else y4) := by
      intro r4 q1 q2 q3
      by_cases c3 : y4 = -2
      · rw [if_pos c3]
        by_cases cs : hB (stp prg op num sndr slnk rcvr rlnk W) = 0
        · rw [q1 c3 cs, if_pos rfl]
          exact (if_pos cs).symm
        · rw [q2 c3 cs, if_neg ni]
          exact (if_neg cs).symm
      · rw [if_neg c3, q3 c3, if_neg c3]
    have fin : ∀ (f0 : mF) (r3 r4 : Int32), PC J prg op num sndr slnk rcvr rlnk f0 fop farg joins → FE f f0 → (y3 = -2 → sK prg sndr slnk rcvr rlnk (stp prg op num sndr slnk rcvr rlnk W) = 0 → r3 = -2) → (y3 = -2 → ¬ sK prg sndr slnk rcvr rlnk (stp prg op num sndr slnk rcvr rlnk W) = 0 → r3 = nI i) → (¬ y3 = -2 → r3 = y3) → (y4 = -2 → hB (stp prg op num sndr slnk rcvr rlnk W) = 0 → r4 = -2) → (y4 = -2 → ¬ hB (stp prg op num sndr slnk rcvr rlnk W) = 0 → r4 = nI i) → (¬ y4 = -2 → r4 = y4) → OX10_ahead_b7 fuel N y2 r3 r4 (nI (i + 1)) f0 fop farg joins n1 a1 d1 ∧ ∃ f' n' a' d', FX10_ahead_b7 fuel N y2 r3 r4 (nI (i + 1)) f0 fop farg joins n1 a1 d1 = ((if y3 = -2 then frs prg op num sndr slnk rcvr rlnk (sK prg sndr slnk rcvr rlnk) (m + 1) i W else y3), (if y4 = -2 then frs prg op num sndr slnk rcvr rlnk hB (m + 1) i W else y4), f', n', a', d') ∧ FE f f' ∧ WI J joins (seq prg op num sndr slnk rcvr rlnk (m + 1) W) n' (T + 6 * (m + 1)) := by
      intro f0 r3 r4 hC0 hE q1 q2 q3 q4 q5 q6
      obtain ⟨i1, f', n', a', d', i2, i3, i4⟩ := IH f0 hC0 r3 r4
      rw [a3 r3 q1 q2 q3, a4 r4 q4 q5 q6] at i2
      exact ⟨i1, f', n', a', d', i2, FE_t hE i3, WI_T i4 (by omega)⟩
    rw [OX10_ahead_b7, FX10_ahead_b7, if_neg c, h4, nI_1]
    dsimp only
    rw [hh]
    by_cases c3 : y3 = -2
    · rw [if_pos c3, k3]
      dsimp only
      by_cases cs : sK prg sndr slnk rcvr rlnk (stp prg op num sndr slnk rcvr rlnk W) = 0
      · rw [if_pos cs]
        by_cases c4 : y4 = -2
        · rw [if_pos c4]
          rcases hB_v (W := stp prg op num sndr slnk rcvr rlnk W) with ch | ⟨ch, ch2⟩
          · have hle : hB (stp prg op num sndr slnk rcvr rlnk W) ≤ 0 := by rw [ch]; decide
            rw [if_pos hle]
            obtain ⟨i1, i2⟩ := fin f2 y3 y4 hC2 f2E (fun _ _ => c3) (fun _ q => absurd cs q) (fun _ => rfl) (fun _ _ => c4) (fun _ q => absurd ch q) (fun _ => rfl)
            exact ⟨⟨fun q => absurd q c, fun _ => ⟨h2, fun _ => ⟨k2, fun _ => ⟨fun _ => ⟨fun _ => i1, fun q => absurd hle q⟩, fun q => absurd c4 q⟩, fun q => absurd cs q⟩, fun q => absurd c3 q⟩⟩, i2⟩
          · rw [if_neg ch2]
            obtain ⟨i1, i2⟩ := fin f2 y3 (nI i) hC2 f2E (fun _ _ => c3) (fun _ q => absurd cs q) (fun _ => rfl) (fun _ q => absurd q ch) (fun _ _ => rfl) (fun q => absurd c4 q)
            exact ⟨⟨fun q => absurd q c, fun _ => ⟨h2, fun _ => ⟨k2, fun _ => ⟨fun _ => ⟨fun q => absurd q ch2, fun _ => i1⟩, fun q => absurd c4 q⟩, fun q => absurd cs q⟩, fun q => absurd c3 q⟩⟩, i2⟩
        · rw [if_neg c4]
          obtain ⟨i1, i2⟩ := fin f2 y3 y4 hC2 f2E (fun _ _ => c3) (fun _ q => absurd cs q) (fun _ => rfl) (fun q => absurd q c4) (fun q => absurd q c4) (fun _ => rfl)
          exact ⟨⟨fun q => absurd q c, fun _ => ⟨h2, fun _ => ⟨k2, fun _ => ⟨fun q => absurd q c4, fun _ => i1⟩, fun q => absurd cs q⟩, fun q => absurd c3 q⟩⟩, i2⟩
      · rw [if_neg cs]
        by_cases c4 : y4 = -2
        · rw [if_pos c4]
          rcases hB_v (W := stp prg op num sndr slnk rcvr rlnk W) with ch | ⟨ch, ch2⟩
          · have hle : hB (stp prg op num sndr slnk rcvr rlnk W) ≤ 0 := by rw [ch]; decide
            rw [if_pos hle]
            obtain ⟨i1, i2⟩ := fin f2 (nI i) y4 hC2 f2E (fun _ q => absurd q cs) (fun _ _ => rfl) (fun q => absurd c3 q) (fun _ _ => c4) (fun _ q => absurd ch q) (fun _ => rfl)
            exact ⟨⟨fun q => absurd q c, fun _ => ⟨h2, fun _ => ⟨k2, fun q => absurd q cs, fun _ => ⟨fun _ => ⟨fun _ => i1, fun q => absurd hle q⟩, fun q => absurd c4 q⟩⟩, fun q => absurd c3 q⟩⟩, i2⟩
          · rw [if_neg ch2]
            obtain ⟨i1, i2⟩ := fin f2 (nI i) (nI i) hC2 f2E (fun _ q => absurd q cs) (fun _ _ => rfl) (fun q => absurd c3 q) (fun _ q => absurd q ch) (fun _ _ => rfl) (fun q => absurd c4 q)
            exact ⟨⟨fun q => absurd q c, fun _ => ⟨h2, fun _ => ⟨k2, fun q => absurd q cs, fun _ => ⟨fun _ => ⟨fun q => absurd q ch2, fun _ => i1⟩, fun q => absurd c4 q⟩⟩, fun q => absurd c3 q⟩⟩, i2⟩
        · rw [if_neg c4]
          obtain ⟨i1, i2⟩ := fin f2 (nI i) y4 hC2 f2E (fun _ q => absurd q cs) (fun _ _ => rfl) (fun q => absurd c3 q) (fun q => absurd q c4) (fun q => absurd q c4) (fun _ => rfl)
          exact ⟨⟨fun q => absurd q c, fun _ => ⟨h2, fun _ => ⟨k2, fun q => absurd q cs, fun _ => ⟨fun q => absurd q c4, fun _ => i1⟩⟩, fun q => absurd c3 q⟩⟩, i2⟩
    · rw [if_neg c3]
      by_cases c4 : y4 = -2
      · rw [if_pos c4]
        rcases hB_v (W := stp prg op num sndr slnk rcvr rlnk W) with ch | ⟨ch, ch2⟩
        · have hle : hB (stp prg op num sndr slnk rcvr rlnk W) ≤ 0 := by rw [ch]; decide
          rw [if_pos hle]
          obtain ⟨i1, i2⟩ := fin f1 y3 y4 h5 f1E (fun q => absurd q c3) (fun q => absurd q c3) (fun _ => rfl) (fun _ _ => c4) (fun _ q => absurd ch q) (fun _ => rfl)
          exact ⟨⟨fun q => absurd q c, fun _ => ⟨h2, fun q => absurd q c3, fun _ => ⟨fun _ => ⟨fun _ => i1, fun q => absurd hle q⟩, fun q => absurd c4 q⟩⟩⟩, i2⟩
        · rw [if_neg ch2]
          obtain ⟨i1, i2⟩ := fin f1 y3 (nI i) h5 f1E (fun q => absurd q c3) (fun q => absurd q c3) (fun _ => rfl) (fun _ q => absurd q ch) (fun _ _ => rfl) (fun q => absurd c4 q)
          exact ⟨⟨fun q => absurd q c, fun _ => ⟨h2, fun q => absurd q c3, fun _ => ⟨fun _ => ⟨fun q => absurd q ch2, fun _ => i1⟩, fun q => absurd c4 q⟩⟩⟩, i2⟩
      · rw [if_neg c4]
        obtain ⟨i1, i2⟩ := fin f1 y3 y4 h5 f1E (fun q => absurd q c3) (fun q => absurd q c3) (fun _ => rfl) (fun q => absurd q c4) (fun q => absurd q c4) (fun _ => rfl)
        exact ⟨⟨fun q => absurd q c, fun _ => ⟨h2, fun q => absurd q c3, fun _ => ⟨fun q => absurd q c4, fun _ => i1⟩⟩⟩, i2⟩
end AHD
