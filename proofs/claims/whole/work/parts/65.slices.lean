/-! PURE: what will be: slices, on both sides (GENERATED, wip/gen/p/65.py) -/
section SLC
variable {prg op num sndr slnk rcvr rlnk f fop farg joins : mF} {J : Nat}
theorem l_sl9 {N y1 y2 y4 y5 : Int32} {M : Nat} (hN : N = nI M) (hM : M ≤ 300) : ∀ (m i fuel : Nat) (W : Nat → mF) (n f : mF) (T : Nat), i + m = M → m < fuel → WI J joins W n T → T + 6 * m < 2 ^ 30 → PC J prg op num sndr slnk rcvr rlnk f fop farg joins → OX9_slices_b4 fuel y1 y2 N y4 y5 (nI i) (W 0) (W 1) (W 2) (W 3) (W 4) (W 5) (W 6) (W 7) (W 8) (W 9) (W 10) (W 11) (W 12) (W 13) (W 14) (W 15) (W 16) (W 17) (W 18) (W 19) (W 20) (W 21) (W 22) prg op num sndr slnk rcvr rlnk ∧ FX9_slices_b4 fuel y1 y2 N y4 y5 (nI i) (W 0) (W 1) (W 2) (W 3) (W 4) (W 5) (W 6) (W 7) (W 8) (W 9) (W 10) (W 11) (W 12) (W 13) (W 14) (W 15) (W 16) (W 17) (W 18) (W 19) (W 20) (W 21) (W 22) prg op num sndr slnk rcvr rlnk = (tP (seq prg op num sndr slnk rcvr rlnk m W)).2
  | _, _, 0, _, _, _, _, _, h, _, _, _ => absurd h (Nat.not_lt_zero _)
  | 0, i, fuel + 1, W, n, f, T, h, _, _, _, _ => by
    have c : N ≤ nI i := by
      rw [hN]
      exact nI_le (by omega) (by omega)
    rw [OX9_slices_b4, FX9_slices_b4, if_pos c]
    exact ⟨⟨fun _ => trivial, fun q => absurd c q⟩, rfl⟩
  | m + 1, i, fuel + 1, W, n, f, T, h, hf, hW, hT, hC => by
    have c : ¬ N ≤ nI i := by
      rw [hN]
      exact nI_ge (by omega) (by omega)
    obtain ⟨h1, -, h3, f', n', a', d', -, h5, -, h7, -, -, -, h11⟩ := p_stp (a0 := f) (d := f) hW (by omega) hC
    obtain ⟨i1, i2⟩ := l_sl9 (y1 := y1) (y2 := y2) (y4 := y4) (y5 := y5) hN hM m (i + 1) fuel (stp prg op num sndr slnk rcvr rlnk W) n' f' (T + 6) (by omega) (by omega) h7 (by omega) h5
    rw [OX9_slices_b4, FX9_slices_b4, if_neg c, h3, nI_1]
    rw [h11] at i1 i2
    exact ⟨⟨fun q => absurd q c, fun _ => ⟨h1, i1⟩⟩, i2⟩
theorem l_sl10 {N y1 y2 y4 y5 : Int32} {M : Nat} (hN : N = nI M) (hM : M ≤ 300) : ∀ (m i fuel : Nat) (W : Nat → mF) (n f a d : mF) (T : Nat), i + m = M → m < fuel → WI J joins W n T → T + 6 * m < 2 ^ 30 → PC J prg op num sndr slnk rcvr rlnk f fop farg joins → OX10_slices_b4 fuel y1 y2 N y4 y5 (nI i) f fop farg joins n a d ∧ ∃ f' n' a' d', FX10_slices_b4 fuel y1 y2 N y4 y5 (nI i) f fop farg joins n a d = (f', n', a', d') ∧ PC J prg op num sndr slnk rcvr rlnk f' fop farg joins ∧ FE f f' ∧ WI J joins (seq prg op num sndr slnk rcvr rlnk m W) n' (T + 6 * m)
  | _, _, 0, _, _, _, _, _, _, _, h, _, _, _ => absurd h (Nat.not_lt_zero _)
  | 0, i, fuel + 1, W, n, f, a, d, T, h, _, hW, _, hC => by
    have c : N ≤ nI i := by
      rw [hN]
      exact nI_le (by omega) (by omega)
    rw [OX10_slices_b4, FX10_slices_b4, if_pos c]
    exact ⟨⟨fun _ => trivial, fun q => absurd c q⟩, f, n, a, d, rfl, hC, FE_r, hW⟩
  | m + 1, i, fuel + 1, W, n, f, a, d, T, h, hf, hW, hT, hC => by
    have c : ¬ N ≤ nI i := by
      rw [hN]
      exact nI_ge (by omega) (by omega)
    obtain ⟨-, h2, -, f1, n1, a1, d1, h4, h5, h6, h7, -⟩ := p_stp (a0 := a) (d := d) hW (by omega) hC
    obtain ⟨i1, f', n', a', d', i2, i3, i4, i5⟩ := l_sl10 (y1 := y1) (y2 := y2) (y4 := y4) (y5 := y5) hN hM m (i + 1) fuel (stp prg op num sndr slnk rcvr rlnk W) n1 f1 a1 d1 (T + 6) (by omega) (by omega) h7 (by omega) h5
    have f1E : FE f f1 := fun k _ x y => h6 k x y
    rw [OX10_slices_b4, FX10_slices_b4, if_neg c, h4, nI_1]
    exact ⟨⟨fun q => absurd q c, fun _ => ⟨h2, i1⟩⟩, f', n', a', d', i2, i3, FE_t f1E i4, WI_T i5 (by omega)⟩
end SLC
section FND
variable {fnd fnd' : mF}
theorem b6_1 {y1 y2 y3 y5 v : Int32} {c : Nat} (hc : c ≤ 16) : ∀ (m i fuel : Nat), i + m = c → m < fuel → OX10_slices_b6 fuel y1 y2 y3 (nI c) y5 v 1 (nI i) fnd ∧ FX10_slices_b6 fuel y1 y2 y3 (nI c) y5 v 1 (nI i) fnd = 1
  | _, _, 0, _, h => absurd h (Nat.not_lt_zero _)
  | 0, i, fuel + 1, h, _ => by
    have e : nI c ≤ nI i := nI_le (by omega) (by omega)
    rw [OX10_slices_b6, FX10_slices_b6, if_pos e]
    exact ⟨⟨fun _ => trivial, fun q => absurd e q⟩, rfl⟩
  | m + 1, i, fuel + 1, h, hf => by
    have e : ¬ nI c ≤ nI i := nI_ge (by omega) (by omega)
    have z10 : ¬ (1 : Int32) = 0 := by decide
    obtain ⟨i1, i2⟩ := b6_1 (y1 := y1) (y2 := y2) (y3 := y3) (y5 := y5) (v := v) hc m (i + 1) fuel (by omega) (by omega)
    rw [OX10_slices_b6, FX10_slices_b6, if_neg e, if_neg z10, nI_1]
    exact ⟨⟨fun q => absurd q e, fun _ => ⟨fun q => absurd q z10, fun _ => i1⟩⟩, i2⟩
theorem l_found {y1 y2 y3 y5 v : Int32} {c : Nat} (hc : c ≤ 16) (hE : ∀ k, k < c → fnd' k = fnd k) : ∀ (m i fuel fuel' : Nat), i + m = c → m < fuel → m < fuel' → OX9_isFound_b1 fuel v (nI c) (nI i) fnd ∧ OX10_slices_b6 fuel' y1 y2 y3 (nI c) y5 v 0 (nI i) fnd' ∧ FX10_slices_b6 fuel' y1 y2 y3 (nI c) y5 v 0 (nI i) fnd' = FX9_isFound_b1 fuel v (nI c) (nI i) fnd
  | _, _, 0, _, _, h, _ => absurd h (Nat.not_lt_zero _)
  | _, _, _ + 1, 0, _, _, h => absurd h (Nat.not_lt_zero _)
  | 0, i, fuel + 1, fuel' + 1, h, _, _ => by
    have e : nI c ≤ nI i := nI_le (by omega) (by omega)
    rw [OX9_isFound_b1, FX9_isFound_b1, OX10_slices_b6, FX10_slices_b6, if_pos e, if_pos e]
    exact ⟨⟨fun _ => trivial, fun q => absurd e q⟩, ⟨fun _ => trivial, fun q => absurd e q⟩, rfl⟩
  | m + 1, i, fuel + 1, fuel' + 1, h, hf, hf' => by
    have e : ¬ nI c ≤ nI i := nI_ge (by omega) (by omega)
    have ci : (nI i).toNatClampNeg = i := nI_clamp (by omega)
    have vi : vp_in (nI i) 16 := vp_in_nI (by omega) (by decide)
    have ek := hE i (by omega)
    obtain ⟨i1, i2, i3⟩ := l_found (y1 := y1) (y2 := y2) (y3 := y3) (y5 := y5) (v := v) hc hE m (i + 1) fuel fuel' (by omega) (by omega) (by omega)
    obtain ⟨j1, j2⟩ := b6_1 (fnd := fnd') (y1 := y1) (y2 := y2) (y3 := y3) (y5 := y5) (v := v) hc m (i + 1) fuel' (by omega) (by omega)
    rw [OX9_isFound_b1, FX9_isFound_b1, OX10_slices_b6, FX10_slices_b6, if_neg e, if_neg e, if_pos rfl, ci, ek, nI_1]
    refine ⟨⟨fun q => absurd q e, fun _ => ⟨vi, fun _ => trivial, fun _ => i1⟩⟩, ⟨fun q => absurd q e, fun _ => ⟨fun _ => ⟨vi, fun _ => j1, fun _ => i2⟩, fun q => absurd rfl q⟩⟩, ?_⟩
    by_cases g : fnd i = v
    · rw [if_pos g, if_pos g]
      exact j2
    · rw [if_neg g, if_neg g]
      exact i3
end FND
section SLW
variable {W : Nat → mF} {prg op num sndr slnk rcvr rlnk fop farg joins : mF} {J T : Nat}
theorem WI_s {U : Nat → mF} {n : mF} {v : Int32} (h : WI J joins U n T) : WI J joins (uw U 0 (upd (U 0) 2 v)) (upd n 348 v) T := by
  obtain ⟨h1, h2, h3, h4, h5, h6⟩ := h
  refine ⟨fun m hm => RMw_g (RMw_W (h1 m hm) (fun c a b => uw_n (by omega))) (fun k hk => pk_un (by omega)), RD_n h2 (fun k a b => pk_un (by omega)), ?_, h4, h5, ?_⟩
  · rw [pk_us, uw_s, pk_us]
  · refine RI_q h6 (fun m i hm hi => ?_)
    rw [uw_n (by omega)]
    exact ⟨rfl, rfl⟩
theorem l_slices {x y z : Int32} {M mm p : Nat} (hM : M ≤ 200) (ez : z = nI M) (hm : mm < 2) (ex : x = nI mm) (hp : p < 96) (ey : y = nI p) (hT : T + 1200 < 2 ^ 30) : ∀ (m s fuel c : Nat) (X : Nat → mF) (f n a as d fnd fnd' : mF), s + m = 17 → m < fuel → c < s → WI J joins W n T → PC J prg op num sndr slnk rcvr rlnk f fop farg joins → X 3 0 = 0 → X 13 0 = 1 → (∀ k, k < 532 → as k = n k) → (∀ k, k < c → fnd' k = fnd k) → OX9_slices_b3 fuel x y z (nI c) (nI s) (X 0) (X 1) (X 2) (X 3) (X 4) (X 5) (X 6) (X 7) (X 8) (X 9) (X 10) (X 11) (X 12) (X 13) (X 14) (X 15) (X 16) (X 17) (X 18) (X 19) (X 20) (X 21) (X 22) (W 0) (W 1) (W 2) (W 4) (W 6) (W 7) (W 8) (W 9) (W 10) (W 11) (W 12) (W 14) (W 16) (W 17) (W 18) (W 19) (W 20) (W 21) (W 22) prg op num sndr slnk rcvr rlnk fnd ∧ OX10_slices_b3 fuel x y z (nI c) (nI s) f fop farg joins n a as d fnd' ∧ ∃ (v : Int32) (Y : Nat → mF) (g f' n' a' d' g' : mF), FX9_slices_b3 fuel x y z (nI c) (nI s) (X 0) (X 1) (X 2) (X 3) (X 4) (X 5) (X 6) (X 7) (X 8) (X 9) (X 10) (X 11) (X 12) (X 13) (X 14) (X 15) (X 16) (X 17) (X 18) (X 19) (X 20) (X 21) (X 22) (W 0) (W 1) (W 2) (W 4) (W 6) (W 7) (W 8) (W 9) (W 10) (W 11) (W 12) (W 14) (W 16) (W 17) (W 18) (W 19) (W 20) (W 21) (W 22) prg op num sndr slnk rcvr rlnk fnd = (v, Y 0, Y 1, Y 2, Y 3, Y 4, Y 5, Y 6, Y 7, Y 8, Y 9, Y 10, Y 11, Y 12, Y 13, Y 14, Y 15, Y 16, Y 17, Y 18, Y 19, Y 20, Y 21, Y 22, g) ∧ FX10_slices_b3 fuel x y z (nI c) (nI s) f fop farg joins n a as d fnd' = (v, f', n', a', d', g') ∧ Y 3 0 = 0 ∧ Y 13 0 = 1 ∧ FE f f' ∧ ∀ k, k < 532 → n' k = n k
  | _, _, 0, _, _, _, _, _, _, _, _, _, _, h, _, _, _, _, _, _, _ => absurd h (Nat.not_lt_zero _)
  | 0, s, fuel + 1, c, X, f, n, a, as, d, fnd, fnd', h, _, _, hW, hC, u3, u13, _, _ => by
    have e : (16 : Int32) < nI s := nI_lt (a := 16) (b := s) (by omega) (by omega)
    rw [OX9_slices_b3, FX9_slices_b3, OX10_slices_b3, FX10_slices_b3, if_pos e, if_pos e]
    exact ⟨⟨fun _ => trivial, fun q => absurd e q⟩, ⟨fun _ => trivial, fun q => absurd e q⟩, nI c, X, fnd, f, n, a, d, fnd', rfl, rfl, u3, u13, FE_r, fun _ _ => rfl⟩
  | m + 1, s, fuel + 1, c, X, f, n, a, as, d, fnd, fnd', h, hf, hcs, hW, hC, u3, u13, has, hE => by
    have e : ¬ (16 : Int32) < nI s := nI_nlt (a := 16) (b := s) (by omega) (by decide)
    obtain ⟨U, eU⟩ : ∃ U, U = uw (cW X W) 0 (upd (cW X W 0) 2 (nI s)) := ⟨_, rfl⟩
    have hU : WI J joins U (upd n 348 (nI s)) T := by rw [eU]; exact WI_s (WI_copy hW u3 u13)
    have oc := ocopy_e (U := X) hW.1
    have ec : FX8_copy (X 0) (X 1) (X 2) (X 4) (X 6) (X 7) (X 8) (X 9) (X 10) (X 11) (X 12) (X 14) (X 16) (X 17) (X 18) (X 19) (X 20) (X 21) (X 22) (W 0) (W 1) (W 2) (W 4) (W 6) (W 7) (W 8) (W 9) (W 10) (W 11) (W 12) (W 14) (W 16) (W 17) (W 18) (W 19) (W 20) (W 21) (W 22) = tC (cW X W) := copy_e
    have kc : ∀ k, k ≠ 0 → U k = cW X W k := fun k hk => by rw [eU]; exact uw_n hk
    have k0 : U 0 = upd (cW X W 0) 2 (nI s) := by rw [eU]; exact uw_s
    obtain ⟨l1, l2⟩ := l_sl9 (y1 := x) (y2 := y) (y4 := nI c) (y5 := nI s) ez (by omega) M 0 10000 U (upd n 348 (nI s)) f T (by omega) (by omega) hU (by omega) hC
    obtain ⟨r1, f1, n1, a1, d1, r2, r3, r4, r5⟩ := l_sl10 (y1 := x) (y2 := y) (y4 := nI c) (y5 := nI s) ez (by omega) M 0 10000 U (upd n 348 (nI s)) f a d T (by omega) (by omega) hU (by omega) hC
    rw [nI_0] at l1 l2 r1 r2
    obtain ⟨Z, eZ⟩ : ∃ Z, Z = seq prg op num sndr slnk rcvr rlnk M U := ⟨_, rfl⟩
    rw [← eZ] at l2 r5
    have z0 : Z 0 = upd (cW X W 0) 2 (nI s) := by rw [eZ]; exact (seq_0 M U).trans k0
    obtain ⟨b1, n2, b2, b3⟩ := p_cback (n := n1) (as := as)
    have hn2 : ∀ k, k < 532 → n2 k = n k := fun k hk => (b3 k hk).trans (has k hk)
    have eb : FX10_base x = nI (174 * mm) := by
      rw [ex]
      rcases (show mm = 0 ∨ mm = 1 by omega) with rfl | rfl <;> decide
    have ei : (nI (174 * mm) + y).toNatClampNeg = 174 * mm + p := by rw [ey, nI_add, nI_clamp (by omega)]
    have vi : vp_in (nI (174 * mm) + y) 532 := by rw [ey, nI_add]; exact vp_in_nI (by omega) (by decide)
    have cy : y.toNatClampNeg = p := by rw [ey]; exact nI_clamp (by omega)
    have vy : vp_in y 96 := by rw [ey]; exact vp_in_nI hp (by decide)
    have vx : vp_in x 2 := jvp2 hm ex
    have cc : (nI c).toNatClampNeg = c := nI_clamp (by omega)
    have vc : vp_in (nI c) 16 := vp_in_nI (by omega) (by decide)
    have em : n1 (174 * mm + p) = Z (6 + 10 * mm) p := (r5.1 mm hm).2.1 p hp
    obtain ⟨q1, q2, q3⟩ := l_found (fnd := fnd) (fnd' := fnd') (y1 := x) (y2 := y) (y3 := z) (y5 := nI s) (v := Z (6 + 10 * mm) p) (c := c) (by omega) hE c 0 10000 10000 (by omega) (by omega) (by omega)
    rw [nI_0] at q1 q2 q3
    have IH := fun (c1 : Nat) (h1 : c1 < s + 1) (g g' : mF) (hg : ∀ k, k < c1 → g' k = g k) => l_slices hM ez hm ex hp ey hT m (s + 1) fuel c1 Z f1 n2 a1 as d1 g g' (by omega) (by omega) h1 (WI_n hW hn2) r3 r5.2.2.2.1 r5.2.2.2.2.1 (fun k hk => (b3 k hk).symm) hg
    have l1' : OX9_slices_b4 10000 x y z (nI c) (nI s) 0 (upd (cW X W 0) 2 (nI s)) (cW X W 1) (cW X W 2) (cW X W 3) (cW X W 4) (cW X W 5) (cW X W 6) (cW X W 7) (cW X W 8) (cW X W 9) (cW X W 10) (cW X W 11) (cW X W 12) (cW X W 13) (cW X W 14) (cW X W 15) (cW X W 16) (cW X W 17) (cW X W 18) (cW X W 19) (cW X W 20) (cW X W 21) (cW X W 22) prg op num sndr slnk rcvr rlnk := by
      rw [← k0, ← kc 1 (by decide), ← kc 2 (by decide), ← kc 3 (by decide), ← kc 4 (by decide), ← kc 5 (by decide), ← kc 6 (by decide), ← kc 7 (by decide), ← kc 8 (by decide), ← kc 9 (by decide), ← kc 10 (by decide), ← kc 11 (by decide), ← kc 12 (by decide), ← kc 13 (by decide), ← kc 14 (by decide), ← kc 15 (by decide), ← kc 16 (by decide), ← kc 17 (by decide), ← kc 18 (by decide), ← kc 19 (by decide), ← kc 20 (by decide), ← kc 21 (by decide), ← kc 22 (by decide)]
      exact l1
    have l2' : FX9_slices_b4 10000 x y z (nI c) (nI s) 0 (upd (cW X W 0) 2 (nI s)) (cW X W 1) (cW X W 2) (cW X W 3) (cW X W 4) (cW X W 5) (cW X W 6) (cW X W 7) (cW X W 8) (cW X W 9) (cW X W 10) (cW X W 11) (cW X W 12) (cW X W 13) (cW X W 14) (cW X W 15) (cW X W 16) (cW X W 17) (cW X W 18) (cW X W 19) (cW X W 20) (cW X W 21) (cW X W 22) prg op num sndr slnk rcvr rlnk = (tP Z).2 := by
      rw [← k0, ← kc 1 (by decide), ← kc 2 (by decide), ← kc 3 (by decide), ← kc 4 (by decide), ← kc 5 (by decide), ← kc 6 (by decide), ← kc 7 (by decide), ← kc 8 (by decide), ← kc 9 (by decide), ← kc 10 (by decide), ← kc 11 (by decide), ← kc 12 (by decide), ← kc 13 (by decide), ← kc 14 (by decide), ← kc 15 (by decide), ← kc 16 (by decide), ← kc 17 (by decide), ← kc 18 (by decide), ← kc 19 (by decide), ← kc 20 (by decide), ← kc 21 (by decide), ← kc 22 (by decide)]
      exact l2
    have x3 : X 3 = cW X W 3 := rfl
    have x5 : X 5 = cW X W 5 := rfl
    have x13 : X 13 = cW X W 13 := rfl
    have x15 : X 15 = cW X W 15 := rfl
    rw [OX9_slices_b3, FX9_slices_b3, OX10_slices_b3, FX10_slices_b3, if_neg e, if_neg e, ec, x3, x5, x13, x15]
    unfold tC
    dsimp only
    rw [l2', r2]
    dsimp only
    rw [eb, ei, b2, cy, cc, nI_1, nI_1]
    have q3' : FX10_slices_b6 10000 x y z (nI c) (nI s) (n1 (174 * mm + p)) 0 0 fnd' = FX9_isFound (Z (6 + 10 * mm) p) (nI c) fnd := by
      rw [em]
      exact q3
    have q2' : OX10_slices_b6 10000 x y z (nI c) (nI s) (n1 (174 * mm + p)) 0 0 fnd' := by
      rw [em]
      exact q2
    have q1' : OX9_isFound (Z (6 + 10 * mm) p) (nI c) fnd := q1
    by_cases g : FX9_isFound (Z (6 + 10 * mm) p) (nI c) fnd = 0
    · have gn := q3'.trans g
      have hg : ∀ k, k < c + 1 → upd fnd' c (n1 (174 * mm + p)) k = upd fnd c (Z (6 + 10 * mm) p) k := fun k hk => by
        rw [em, upd_at, upd_at]
        split
        · rfl
        · exact hE k (by omega)
      obtain ⟨i1, i2, v, Y, g1, f', n', a', d', g2, i3, i4, i5, i6, i7, i8⟩ := IH (c + 1) (by omega) (upd fnd c (Z (6 + 10 * mm) p)) (upd fnd' c (n1 (174 * mm + p))) hg
      rw [z0] at i1 i3
      rw [if_pos gn]
      have hn' : ∀ k, k < 532 → n' k = n k := fun k hk => (i8 k hk).trans (hn2 k hk)
      rcases (show mm = 0 ∨ mm = 1 by omega) with rfl | rfl
      · have x0 : x = 0 := nI0 ex
        rw [if_pos x0, show FX9_isFound ((tP Z).2.2.2.2.2.2.1 p) (nI c) fnd = FX9_isFound (Z (6 + 10 * 0) p) (nI c) fnd from rfl, if_pos g]
        exact ⟨⟨fun q => absurd q e, fun _ => ⟨oc, l1', vx, fun _ => ⟨vy, q1', fun _ => ⟨vc, i1⟩, fun q => absurd g q⟩, fun q => absurd x0 q⟩⟩, ⟨fun q => absurd q e, fun _ => ⟨r1, vi, b1, q2', fun _ => ⟨vc, i2⟩, fun q => absurd gn q⟩⟩, v, Y, g1, f', n', a', d', g2, i3, i4, i5, i6, FE_t r4 i7, hn'⟩
      · have x0 : ¬ x = 0 := nI1 ex
        rw [if_neg x0, show FX9_isFound ((tP Z).2.2.2.2.2.2.2.2.2.2.2.2.2.2.2.2.1 p) (nI c) fnd = FX9_isFound (Z (6 + 10 * 1) p) (nI c) fnd from rfl, if_pos g]
        exact ⟨⟨fun q => absurd q e, fun _ => ⟨oc, l1', vx, fun q => absurd q x0, fun _ => ⟨vy, q1', fun _ => ⟨vc, i1⟩, fun q => absurd g q⟩⟩⟩, ⟨fun q => absurd q e, fun _ => ⟨r1, vi, b1, q2', fun _ => ⟨vc, i2⟩, fun q => absurd gn q⟩⟩, v, Y, g1, f', n', a', d', g2, i3, i4, i5, i6, FE_t r4 i7, hn'⟩
    · have gn : ¬ FX10_slices_b6 10000 x y z (nI c) (nI s) (n1 (174 * mm + p)) 0 0 fnd' = 0 := fun q => g (q3'.symm.trans q)
      obtain ⟨i1, i2, v, Y, g1, f', n', a', d', g2, i3, i4, i5, i6, i7, i8⟩ := IH c (by omega) fnd fnd' hE
      rw [z0] at i1 i3
      rw [if_neg gn]
      have hn' : ∀ k, k < 532 → n' k = n k := fun k hk => (i8 k hk).trans (hn2 k hk)
      rcases (show mm = 0 ∨ mm = 1 by omega) with rfl | rfl
      · have x0 : x = 0 := nI0 ex
        rw [if_pos x0, show FX9_isFound ((tP Z).2.2.2.2.2.2.1 p) (nI c) fnd = FX9_isFound (Z (6 + 10 * 0) p) (nI c) fnd from rfl, if_neg g]
        exact ⟨⟨fun q => absurd q e, fun _ => ⟨oc, l1', vx, fun _ => ⟨vy, q1', fun q => absurd q g, fun _ => i1⟩, fun q => absurd x0 q⟩⟩, ⟨fun q => absurd q e, fun _ => ⟨r1, vi, b1, q2', fun q => absurd q gn, fun _ => i2⟩⟩, v, Y, g1, f', n', a', d', g2, i3, i4, i5, i6, FE_t r4 i7, hn'⟩
      · have x0 : ¬ x = 0 := nI1 ex
        rw [if_neg x0, show FX9_isFound ((tP Z).2.2.2.2.2.2.2.2.2.2.2.2.2.2.2.2.1 p) (nI c) fnd = FX9_isFound (Z (6 + 10 * 1) p) (nI c) fnd from rfl, if_neg g]
        exact ⟨⟨fun q => absurd q e, fun _ => ⟨oc, l1', vx, fun q => absurd q x0, fun _ => ⟨vy, q1', fun q => absurd q g, fun _ => i1⟩⟩⟩, ⟨fun q => absurd q e, fun _ => ⟨r1, vi, b1, q2', fun q => absurd q gn, fun _ => i2⟩⟩, v, Y, g1, f', n', a', d', g2, i3, i4, i5, i6, FE_t r4 i7, hn'⟩
end SLW
