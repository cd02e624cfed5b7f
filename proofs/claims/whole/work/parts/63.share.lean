/-! PURE: what will be: share, until, on both sides (GENERATED, wip/gen/p/63.py) -/
theorem inC1 {C : Nat} (hC : C < 2 ^ 31) (x : Int32) : (∃ M : Nat, 1 ≤ M ∧ M ≤ C ∧ x = nI M ∧ ¬ x < 1 ∧ ¬ nI C < x ∧ x ≤ nI C ∧ FX10_isIn x 1 (nI C) = 1) ∨ (FX10_isIn x 1 (nI C) = 0 ∧ (x < 1 ∨ (¬ x < 1 ∧ nI C < x ∧ ¬ x ≤ nI C))) := by
  by_cases h : x < 1
  · exact Or.inr ⟨if_pos h, Or.inl h⟩
  · have h0 : ¬ x < 0 := fun q => h (Int32.lt_of_lt_of_le q (by decide))
    obtain ⟨k, hk, rfl⟩ := nI_of h0
    have k1 : 1 ≤ k := by
      rcases Nat.eq_zero_or_pos k with q | q
      · exact absurd (by rw [q]; decide) h
      · exact q
    rcases Nat.lt_or_ge C k with q | q
    · have h2 : nI C < nI k := nI_lt q hk
      exact Or.inr ⟨(if_neg h).trans (if_pos h2), Or.inr ⟨h, h2, Int32.not_le.mpr h2⟩⟩
    · have h2 : ¬ nI C < nI k := nI_nlt q hC
      exact Or.inl ⟨k, k1, q, rfl, h, h2, Int32.not_lt.mp h2, (if_neg h).trans (if_neg h2)⟩
/-- in how many of so many passes who did is y -/
def shr (prg op num sndr slnk rcvr rlnk : mF) (mm : Nat) (y : Int32) : Nat → (Nat → mF) → Int32 → Int32
  | 0, _, c => c
  | m + 1, W, c => if stp prg op num sndr slnk rcvr rlnk W (3 + 10 * mm) 7 = y then shr prg op num sndr slnk rcvr rlnk mm y m (stp prg op num sndr slnk rcvr rlnk W) (c + 1) else shr prg op num sndr slnk rcvr rlnk mm y m (stp prg op num sndr slnk rcvr rlnk W) c
/-- behind how many passes a word is v -/
def unt (prg op num sndr slnk rcvr rlnk : mF) (mm p : Nat) (v : Int32) : Nat → Nat → (Nat → mF) → Int32
  | 0, i, W => if W (6 + 10 * mm) p = v then nI i else -2
  | m + 1, i, W => if W (6 + 10 * mm) p = v then nI i else unt prg op num sndr slnk rcvr rlnk mm p v m (i + 1) (stp prg op num sndr slnk rcvr rlnk W)
section SHA
variable {prg op num sndr slnk rcvr rlnk f fop farg joins : mF} {J : Nat}
theorem l_share9 {N x y : Int32} {M mm : Nat} (hN : N = nI M) (hM : M ≤ 300) (hm : mm < 2) (hx : x = nI mm) : ∀ (m i fuel : Nat) (W : Nat → mF) (n f : mF) (T : Nat) (c0 : Int32), i + m = M → m < fuel → WI J joins W n T → T + 6 * m < 2 ^ 30 → PC J prg op num sndr slnk rcvr rlnk f fop farg joins → OX9_share_b3 fuel x y N c0 (nI i) (W 0) (W 1) (W 2) (W 3) (W 4) (W 5) (W 6) (W 7) (W 8) (W 9) (W 10) (W 11) (W 12) (W 13) (W 14) (W 15) (W 16) (W 17) (W 18) (W 19) (W 20) (W 21) (W 22) prg op num sndr slnk rcvr rlnk ∧ FX9_share_b3 fuel x y N c0 (nI i) (W 0) (W 1) (W 2) (W 3) (W 4) (W 5) (W 6) (W 7) (W 8) (W 9) (W 10) (W 11) (W 12) (W 13) (W 14) (W 15) (W 16) (W 17) (W 18) (W 19) (W 20) (W 21) (W 22) prg op num sndr slnk rcvr rlnk = (shr prg op num sndr slnk rcvr rlnk mm y m W c0, (tP (seq prg op num sndr slnk rcvr rlnk m W)).2)
  | _, _, 0, _, _, _, _, _, _, h, _, _, _ => absurd h (Nat.not_lt_zero _)
  | 0, i, fuel + 1, W, n, f, T, c0, h, _, _, _, _ => by
    have c : N ≤ nI i := by
      rw [hN]
      exact nI_le (by omega) (by omega)
    rw [OX9_share_b3, FX9_share_b3, if_pos c]
    exact ⟨⟨fun _ => trivial, fun q => absurd c q⟩, rfl⟩
  | m + 1, i, fuel + 1, W, n, f, T, c0, h, hf, hW, hT, hC => by
    have c : ¬ N ≤ nI i := by
      rw [hN]
      exact nI_ge (by omega) (by omega)
    obtain ⟨h1, -, h3, f', n', a', d', -, h5, -, h7, -, -, -, h11⟩ := p_stp (a0 := f) (d := f) hW (by omega) hC
    have IH := fun c1 : Int32 => l_share9 (y := y) hN hM hm hx m (i + 1) fuel (stp prg op num sndr slnk rcvr rlnk W) n' f' (T + 6) c1 (by omega) (by omega) h7 (by omega) h5
    have vx : vp_in x 2 := jvp2 hm hx
    rw [OX9_share_b3, FX9_share_b3, if_neg c, h3, nI_1]
    rw [h11] at IH
    by_cases e : stp prg op num sndr slnk rcvr rlnk W (3 + 10 * mm) 7 = y
    · have es : shr prg op num sndr slnk rcvr rlnk mm y (m + 1) W c0 = shr prg op num sndr slnk rcvr rlnk mm y m (stp prg op num sndr slnk rcvr rlnk W) (c0 + 1) := if_pos e
      rw [es]
      obtain ⟨i1, i2⟩ := IH (c0 + 1)
      rcases (show mm = 0 ∨ mm = 1 by omega) with rfl | rfl
      · have x0 : x = 0 := nI0 hx
        exact ⟨⟨fun q => absurd q c, fun _ => ⟨h1, vx, fun _ => ⟨fun _ => i1, fun q => absurd e q⟩, fun q => absurd x0 q⟩⟩, (if_pos x0).trans ((if_pos e).trans i2)⟩
      · have x0 : ¬ x = 0 := nI1 hx
        exact ⟨⟨fun q => absurd q c, fun _ => ⟨h1, vx, fun q => absurd q x0, fun _ => ⟨fun _ => i1, fun q => absurd e q⟩⟩⟩, (if_neg x0).trans ((if_pos e).trans i2)⟩
    · have es : shr prg op num sndr slnk rcvr rlnk mm y (m + 1) W c0 = shr prg op num sndr slnk rcvr rlnk mm y m (stp prg op num sndr slnk rcvr rlnk W) c0 := if_neg e
      rw [es]
      obtain ⟨i1, i2⟩ := IH c0
      rcases (show mm = 0 ∨ mm = 1 by omega) with rfl | rfl
      · have x0 : x = 0 := nI0 hx
        exact ⟨⟨fun q => absurd q c, fun _ => ⟨h1, vx, fun _ => ⟨fun q => absurd q e, fun _ => i1⟩, fun q => absurd x0 q⟩⟩, (if_pos x0).trans ((if_neg e).trans i2)⟩
      · have x0 : ¬ x = 0 := nI1 hx
        exact ⟨⟨fun q => absurd q c, fun _ => ⟨h1, vx, fun q => absurd q x0, fun _ => ⟨fun q => absurd q e, fun _ => i1⟩⟩⟩, (if_neg x0).trans ((if_neg e).trans i2)⟩
theorem l_share10 {N x y : Int32} {M mm : Nat} (hN : N = nI M) (hM : M ≤ 300) (hm : mm < 2) (hx : x = nI mm) : ∀ (m i fuel : Nat) (W : Nat → mF) (n f a d : mF) (T : Nat) (c0 : Int32), i + m = M → m < fuel → WI J joins W n T → T + 6 * m < 2 ^ 30 → PC J prg op num sndr slnk rcvr rlnk f fop farg joins → OX10_share_b3 fuel x y N c0 (nI i) f fop farg joins n a d ∧ ∃ f' n' a' d', FX10_share_b3 fuel x y N c0 (nI i) f fop farg joins n a d = (shr prg op num sndr slnk rcvr rlnk mm y m W c0, f', n', a', d') ∧ FE f f' ∧ WI J joins (seq prg op num sndr slnk rcvr rlnk m W) n' (T + 6 * m)
  | _, _, 0, _, _, _, _, _, _, _, _, h, _, _, _ => absurd h (Nat.not_lt_zero _)
  | 0, i, fuel + 1, W, n, f, a, d, T, c0, h, _, hW, _, hC => by
    have c : N ≤ nI i := by
      rw [hN]
      exact nI_le (by omega) (by omega)
    rw [OX10_share_b3, FX10_share_b3, if_pos c]
    exact ⟨⟨fun _ => trivial, fun q => absurd c q⟩, f, n, a, d, rfl, FE_r, hW⟩
  | m + 1, i, fuel + 1, W, n, f, a, d, T, c0, h, hf, hW, hT, hC => by
    have c : ¬ N ≤ nI i := by
      rw [hN]
      exact nI_ge (by omega) (by omega)
    obtain ⟨-, h2, -, f1, n1, a1, d1, h4, h5, h6, h7, h8, h9, -⟩ := p_stp (a0 := a) (d := d) hW (by omega) hC
    have IH := fun c1 : Int32 => l_share10 (y := y) hN hM hm hx m (i + 1) fuel (stp prg op num sndr slnk rcvr rlnk W) n1 f1 a1 d1 (T + 6) c1 (by omega) (by omega) h7 (by omega) h5
    have f1E : FE f f1 := fun k _ x y => h6 k x y
    have vx : vp_in x 2 := jvp2 hm hx
    have ed : d1 x.toNatClampNeg = stp prg op num sndr slnk rcvr rlnk W (3 + 10 * mm) 7 := by
      rw [hx, nI_clamp (by omega)]
      rcases (show mm = 0 ∨ mm = 1 by omega) with rfl | rfl
      · exact h8
      · exact h9
    rw [OX10_share_b3, FX10_share_b3, if_neg c, h4, nI_1]
    dsimp only
    by_cases e : stp prg op num sndr slnk rcvr rlnk W (3 + 10 * mm) 7 = y
    · have es : shr prg op num sndr slnk rcvr rlnk mm y (m + 1) W c0 = shr prg op num sndr slnk rcvr rlnk mm y m (stp prg op num sndr slnk rcvr rlnk W) (c0 + 1) := if_pos e
      have e' : d1 x.toNatClampNeg = y := ed.trans e
      obtain ⟨i1, f', n', a', d', i2, i3, i4⟩ := IH (c0 + 1)
      rw [es, if_pos e']
      exact ⟨⟨fun q => absurd q c, fun _ => ⟨h2, vx, fun _ => i1, fun q => absurd e' q⟩⟩, f', n', a', d', i2, FE_t f1E i3, WI_T i4 (by omega)⟩
    · have es : shr prg op num sndr slnk rcvr rlnk mm y (m + 1) W c0 = shr prg op num sndr slnk rcvr rlnk mm y m (stp prg op num sndr slnk rcvr rlnk W) c0 := if_neg e
      have e' : ¬ d1 x.toNatClampNeg = y := fun q => e (ed.symm.trans q)
      obtain ⟨i1, f', n', a', d', i2, i3, i4⟩ := IH c0
      rw [es, if_neg e']
      exact ⟨⟨fun q => absurd q c, fun _ => ⟨h2, vx, fun q => absurd q e', fun _ => i1⟩⟩, f', n', a', d', i2, FE_t f1E i3, WI_T i4 (by omega)⟩
theorem l_until9 {N x y v : Int32} {M mm p : Nat} {A : Nat → mF} (hN : N = nI M) (hM : M ≤ 300) (hm : mm < 2) (hx : x = nI mm) (hp : p < 96) (hy : y = nI p) : ∀ (m i fuel : Nat) (W : Nat → mF) (n f : mF) (T : Nat), i + m = M → m + 1 < fuel → WI J joins W n T → T + 6 * (m + 1) < 2 ^ 30 → PC J prg op num sndr slnk rcvr rlnk f fop farg joins → OX9_until_b3 fuel x y v N (nI i) (W 0) (W 1) (W 2) (W 3) (W 4) (W 5) (W 6) (W 7) (W 8) (W 9) (W 10) (W 11) (W 12) (W 13) (W 14) (W 15) (W 16) (W 17) (W 18) (W 19) (W 20) (W 21) (W 22) (A 0) (A 1) (A 2) (A 4) (A 6) (A 7) (A 8) (A 9) (A 10) (A 11) (A 12) (A 14) (A 16) (A 17) (A 18) (A 19) (A 20) (A 21) (A 22) prg op num sndr slnk rcvr rlnk ∧ ∃ Y : Nat → mF, FX9_until_b3 fuel x y v N (nI i) (W 0) (W 1) (W 2) (W 3) (W 4) (W 5) (W 6) (W 7) (W 8) (W 9) (W 10) (W 11) (W 12) (W 13) (W 14) (W 15) (W 16) (W 17) (W 18) (W 19) (W 20) (W 21) (W 22) (A 0) (A 1) (A 2) (A 4) (A 6) (A 7) (A 8) (A 9) (A 10) (A 11) (A 12) (A 14) (A 16) (A 17) (A 18) (A 19) (A 20) (A 21) (A 22) prg op num sndr slnk rcvr rlnk = (unt prg op num sndr slnk rcvr rlnk mm p v m i W, Y 0, Y 1, Y 2, Y 3, Y 4, Y 5, Y 6, Y 7, Y 8, Y 9, Y 10, Y 11, Y 12, Y 13, Y 14, Y 15, Y 16, Y 17, Y 18, Y 19, Y 20, Y 21, Y 22) ∧ Y 3 0 = 0 ∧ Y 13 0 = 1
  | _, _, 0, _, _, _, _, _, h, _, _, _ => absurd h (Nat.not_lt_zero _)
  | 0, i, fuel + 1, W, n, f, T, h, hf, hW, hT, hC => by
    obtain ⟨fuel, rfl⟩ : ∃ k, fuel = k + 1 := ⟨fuel - 1, by omega⟩
    have c : ¬ N < nI i := by
      rw [hN]
      exact nI_nlt (by omega) (by omega)
    have c2 : N < nI (i + 1) := by
      rw [hN]
      exact nI_lt (by omega) (by omega)
    obtain ⟨h1, -, h3, f', n', a', d', -, h5, -, h7, -, -, -, h11⟩ := p_stp (a0 := f) (d := f) hW (by omega) hC
    have vx : vp_in x 2 := jvp2 hm hx
    have vy : vp_in y 96 := by rw [hy]; exact vp_in_nI hp (by decide)
    have cy : y.toNatClampNeg = p := by rw [hy]; exact nI_clamp (by omega)
    have i1 : OX9_until_b3 (fuel + 1) x y v N (nI (i + 1)) (W 0) (stp prg op num sndr slnk rcvr rlnk W 1) (stp prg op num sndr slnk rcvr rlnk W 2) (stp prg op num sndr slnk rcvr rlnk W 3) (stp prg op num sndr slnk rcvr rlnk W 4) (stp prg op num sndr slnk rcvr rlnk W 5) (stp prg op num sndr slnk rcvr rlnk W 6) (stp prg op num sndr slnk rcvr rlnk W 7) (stp prg op num sndr slnk rcvr rlnk W 8) (stp prg op num sndr slnk rcvr rlnk W 9) (stp prg op num sndr slnk rcvr rlnk W 10) (stp prg op num sndr slnk rcvr rlnk W 11) (stp prg op num sndr slnk rcvr rlnk W 12) (stp prg op num sndr slnk rcvr rlnk W 13) (stp prg op num sndr slnk rcvr rlnk W 14) (stp prg op num sndr slnk rcvr rlnk W 15) (stp prg op num sndr slnk rcvr rlnk W 16) (stp prg op num sndr slnk rcvr rlnk W 17) (stp prg op num sndr slnk rcvr rlnk W 18) (stp prg op num sndr slnk rcvr rlnk W 19) (stp prg op num sndr slnk rcvr rlnk W 20) (stp prg op num sndr slnk rcvr rlnk W 21) (stp prg op num sndr slnk rcvr rlnk W 22) (A 0) (A 1) (A 2) (A 4) (A 6) (A 7) (A 8) (A 9) (A 10) (A 11) (A 12) (A 14) (A 16) (A 17) (A 18) (A 19) (A 20) (A 21) (A 22) prg op num sndr slnk rcvr rlnk ∧ FX9_until_b3 (fuel + 1) x y v N (nI (i + 1)) (W 0) (stp prg op num sndr slnk rcvr rlnk W 1) (stp prg op num sndr slnk rcvr rlnk W 2) (stp prg op num sndr slnk rcvr rlnk W 3) (stp prg op num sndr slnk rcvr rlnk W 4) (stp prg op num sndr slnk rcvr rlnk W 5) (stp prg op num sndr slnk rcvr rlnk W 6) (stp prg op num sndr slnk rcvr rlnk W 7) (stp prg op num sndr slnk rcvr rlnk W 8) (stp prg op num sndr slnk rcvr rlnk W 9) (stp prg op num sndr slnk rcvr rlnk W 10) (stp prg op num sndr slnk rcvr rlnk W 11) (stp prg op num sndr slnk rcvr rlnk W 12) (stp prg op num sndr slnk rcvr rlnk W 13) (stp prg op num sndr slnk rcvr rlnk W 14) (stp prg op num sndr slnk rcvr rlnk W 15) (stp prg op num sndr slnk rcvr rlnk W 16) (stp prg op num sndr slnk rcvr rlnk W 17) (stp prg op num sndr slnk rcvr rlnk W 18) (stp prg op num sndr slnk rcvr rlnk W 19) (stp prg op num sndr slnk rcvr rlnk W 20) (stp prg op num sndr slnk rcvr rlnk W 21) (stp prg op num sndr slnk rcvr rlnk W 22) (A 0) (A 1) (A 2) (A 4) (A 6) (A 7) (A 8) (A 9) (A 10) (A 11) (A 12) (A 14) (A 16) (A 17) (A 18) (A 19) (A 20) (A 21) (A 22) prg op num sndr slnk rcvr rlnk = (-2, W 0, (tP (stp prg op num sndr slnk rcvr rlnk W)).2) := by
      rw [OX9_until_b3, FX9_until_b3, if_pos c2]
      exact ⟨⟨fun _ => trivial, fun q => absurd c2 q⟩, rfl⟩
    obtain ⟨i1, i2⟩ := i1
    rw [OX9_until_b3, FX9_until_b3, if_neg c, h3, nI_1, cy]
    rcases (show mm = 0 ∨ mm = 1 by omega) with rfl | rfl
    · have x0 : x = 0 := nI0 hx
      by_cases e : W 6 p = v
      · have es : unt prg op num sndr slnk rcvr rlnk 0 p v 0 i W = nI i := if_pos e
        rw [es]
        exact ⟨⟨fun q => absurd q c, fun _ => ⟨vx, fun _ => ⟨vy, fun _ => trivial, fun q => absurd e q⟩, fun q => absurd x0 q⟩⟩, W, (if_pos x0).trans (if_pos e), hW.2.2.2.1, hW.2.2.2.2.1⟩
      · have es : unt prg op num sndr slnk rcvr rlnk 0 p v 0 i W = -2 := if_neg e
        rw [es]
        refine ⟨⟨fun q => absurd q c, fun _ => ⟨vx, fun _ => ⟨vy, fun q => absurd q e, fun _ => ⟨h1, i1⟩⟩, fun q => absurd x0 q⟩⟩, stp prg op num sndr slnk rcvr rlnk W, ?_, h7.2.2.2.1, h7.2.2.2.2.1⟩
        rw [h11]
        exact (if_pos x0).trans ((if_neg e).trans i2)
    · have x0 : ¬ x = 0 := nI1 hx
      by_cases e : W 16 p = v
      · have es : unt prg op num sndr slnk rcvr rlnk 1 p v 0 i W = nI i := if_pos e
        rw [es]
        exact ⟨⟨fun q => absurd q c, fun _ => ⟨vx, fun q => absurd q x0, fun _ => ⟨vy, fun _ => trivial, fun q => absurd e q⟩⟩⟩, W, (if_neg x0).trans (if_pos e), hW.2.2.2.1, hW.2.2.2.2.1⟩
      · have es : unt prg op num sndr slnk rcvr rlnk 1 p v 0 i W = -2 := if_neg e
        rw [es]
        refine ⟨⟨fun q => absurd q c, fun _ => ⟨vx, fun q => absurd q x0, fun _ => ⟨vy, fun q => absurd q e, fun _ => ⟨h1, i1⟩⟩⟩⟩, stp prg op num sndr slnk rcvr rlnk W, ?_, h7.2.2.2.1, h7.2.2.2.2.1⟩
        rw [h11]
        exact (if_neg x0).trans ((if_neg e).trans i2)
  | m + 1, i, fuel + 1, W, n, f, T, h, hf, hW, hT, hC => by
    have c : ¬ N < nI i := by
      rw [hN]
      exact nI_nlt (by omega) (by omega)
    obtain ⟨h1, -, h3, f', n', a', d', -, h5, -, h7, -, -, -, h11⟩ := p_stp (a0 := f) (d := f) hW (by omega) hC
    have vx : vp_in x 2 := jvp2 hm hx
    have vy : vp_in y 96 := by rw [hy]; exact vp_in_nI hp (by decide)
    have cy : y.toNatClampNeg = p := by rw [hy]; exact nI_clamp (by omega)
    obtain ⟨i1, Y, i2, i3, i4⟩ := l_until9 (A := A) (v := v) hN hM hm hx hp hy m (i + 1) fuel (stp prg op num sndr slnk rcvr rlnk W) n' f' (T + 6) (by omega) (by omega) h7 (by omega) h5
    rw [h11] at i1 i2
    rw [OX9_until_b3, FX9_until_b3, if_neg c, h3, nI_1, cy]
    rcases (show mm = 0 ∨ mm = 1 by omega) with rfl | rfl
    · have x0 : x = 0 := nI0 hx
      by_cases e : W 6 p = v
      · have es : unt prg op num sndr slnk rcvr rlnk 0 p v (m + 1) i W = nI i := if_pos e
        rw [es]
        exact ⟨⟨fun q => absurd q c, fun _ => ⟨vx, fun _ => ⟨vy, fun _ => trivial, fun q => absurd e q⟩, fun q => absurd x0 q⟩⟩, W, (if_pos x0).trans (if_pos e), hW.2.2.2.1, hW.2.2.2.2.1⟩
      · have es : unt prg op num sndr slnk rcvr rlnk 0 p v (m + 1) i W = unt prg op num sndr slnk rcvr rlnk 0 p v m (i + 1) (stp prg op num sndr slnk rcvr rlnk W) := if_neg e
        rw [es]
        exact ⟨⟨fun q => absurd q c, fun _ => ⟨vx, fun _ => ⟨vy, fun q => absurd q e, fun _ => ⟨h1, i1⟩⟩, fun q => absurd x0 q⟩⟩, Y, (if_pos x0).trans ((if_neg e).trans i2), i3, i4⟩
    · have x0 : ¬ x = 0 := nI1 hx
      by_cases e : W 16 p = v
      · have es : unt prg op num sndr slnk rcvr rlnk 1 p v (m + 1) i W = nI i := if_pos e
        rw [es]
        exact ⟨⟨fun q => absurd q c, fun _ => ⟨vx, fun q => absurd q x0, fun _ => ⟨vy, fun _ => trivial, fun q => absurd e q⟩⟩⟩, W, (if_neg x0).trans (if_pos e), hW.2.2.2.1, hW.2.2.2.2.1⟩
      · have es : unt prg op num sndr slnk rcvr rlnk 1 p v (m + 1) i W = unt prg op num sndr slnk rcvr rlnk 1 p v m (i + 1) (stp prg op num sndr slnk rcvr rlnk W) := if_neg e
        rw [es]
        exact ⟨⟨fun q => absurd q c, fun _ => ⟨vx, fun q => absurd q x0, fun _ => ⟨vy, fun q => absurd q e, fun _ => ⟨h1, i1⟩⟩⟩⟩, Y, (if_neg x0).trans ((if_neg e).trans i2), i3, i4⟩
theorem l_until10 {N x y v : Int32} {M mm p : Nat} (hN : N = nI M) (hM : M ≤ 300) (hm : mm < 2) (hx : x = nI mm) (hp : p < 96) (hy : y = nI p) : ∀ (m i fuel : Nat) (W : Nat → mF) (n f a d : mF) (T : Nat), i + m = M → m < fuel → WI J joins W n T → T + 6 * m < 2 ^ 30 → PC J prg op num sndr slnk rcvr rlnk f fop farg joins → OX10_until_b3 fuel x y v N (nI i) f fop farg joins n a d ∧ ∃ (k' : Int32) (f' n' a' d' : mF), FX10_until_b3 fuel x y v N (nI i) f fop farg joins n a d = (k', f', n', a', d') ∧ (if n' (174 * mm + p) = v then k' else -2) = unt prg op num sndr slnk rcvr rlnk mm p v m i W ∧ FE f f'
  | _, _, 0, _, _, _, _, _, _, _, h, _, _, _ => absurd h (Nat.not_lt_zero _)
  | 0, i, fuel + 1, W, n, f, a, d, T, h, _, hW, _, hC => by
    have c : N ≤ nI i := by
      rw [hN]
      exact nI_le (by omega) (by omega)
    rw [OX10_until_b3, FX10_until_b3, if_pos c]
    refine ⟨⟨fun _ => trivial, fun q => absurd c q⟩, nI i, f, n, a, d, rfl, ?_, FE_r⟩
    rw [show n (174 * mm + p) = W (6 + 10 * mm) p from (hW.1 mm hm).2.1 p hp]
    rfl
  | m + 1, i, fuel + 1, W, n, f, a, d, T, h, hf, hW, hT, hC => by
    have c : ¬ N ≤ nI i := by
      rw [hN]
      exact nI_ge (by omega) (by omega)
    obtain ⟨-, h2, -, f1, n1, a1, d1, h4, h5, h6, h7, -⟩ := p_stp (a0 := a) (d := d) hW (by omega) hC
    obtain ⟨i1, k', f', n', a', d', i2, i3, i4⟩ := l_until10 (v := v) hN hM hm hx hp hy m (i + 1) fuel (stp prg op num sndr slnk rcvr rlnk W) n1 f1 a1 d1 (T + 6) (by omega) (by omega) h7 (by omega) h5
    have f1E : FE f f1 := fun k _ x y => h6 k x y
    have eb : FX10_base x = nI (174 * mm) := by
      rw [hx]
      rcases (show mm = 0 ∨ mm = 1 by omega) with rfl | rfl <;> decide
    have ei : (nI (174 * mm) + y).toNatClampNeg = 174 * mm + p := by rw [hy, nI_add, nI_clamp (by omega)]
    have vi : vp_in (nI (174 * mm) + y) 532 := by rw [hy, nI_add]; exact vp_in_nI (by omega) (by decide)
    have em : n (174 * mm + p) = W (6 + 10 * mm) p := (hW.1 mm hm).2.1 p hp
    rw [OX10_until_b3, FX10_until_b3, if_neg c, h4, nI_1, eb]
    dsimp only
    rw [ei, em]
    by_cases e : W (6 + 10 * mm) p = v
    · have es : unt prg op num sndr slnk rcvr rlnk mm p v (m + 1) i W = nI i := if_pos e
      rw [es, if_pos e]
      refine ⟨⟨fun q => absurd q c, fun _ => ⟨vi, fun _ => trivial, fun q => absurd e q⟩⟩, nI i, f, n, a, d, rfl, ?_, FE_r⟩
      rw [em, if_pos e]
    · have es : unt prg op num sndr slnk rcvr rlnk mm p v (m + 1) i W = unt prg op num sndr slnk rcvr rlnk mm p v m (i + 1) (stp prg op num sndr slnk rcvr rlnk W) := if_neg e
      rw [es, if_neg e]
      exact ⟨⟨fun q => absurd q c, fun _ => ⟨vi, fun q => absurd q e, fun _ => ⟨h2, i1⟩⟩⟩, k', f', n', a', d', i2, i3, FE_t f1E i4⟩
end SHA
