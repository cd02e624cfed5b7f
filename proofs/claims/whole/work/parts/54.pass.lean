/-! PURE: one TICK on both sides (GENERATED, wip/gen/p/54.py) -/
/-- the rows once both turns are over -/
def wT (W : Nat → mF) (P0 P1 : Int32 × mF × mF × mF × mF × mF × mF × mF × mF × mF × mF × mF × mF) : Nat → mF := fun c => match c with
  | 1 => P1.2.2.2.2.2.2.2.2.2.2.2.1
  | 2 => P1.2.2.2.2.2.2.2.2.2.2.2.2
  | 3 => P0.2.1
  | 4 => P0.2.2.1
  | 5 => P0.2.2.2.1
  | 6 => P0.2.2.2.2.1
  | 7 => P0.2.2.2.2.2.1
  | 8 => P0.2.2.2.2.2.2.1
  | 9 => P0.2.2.2.2.2.2.2.1
  | 10 => P0.2.2.2.2.2.2.2.2.1
  | 11 => P0.2.2.2.2.2.2.2.2.2.1
  | 12 => P0.2.2.2.2.2.2.2.2.2.2.1
  | 13 => P1.2.1
  | 14 => P1.2.2.1
  | 15 => P1.2.2.2.1
  | 16 => P1.2.2.2.2.1
  | 17 => P1.2.2.2.2.2.1
  | 18 => P1.2.2.2.2.2.2.1
  | 19 => P1.2.2.2.2.2.2.2.1
  | 20 => P1.2.2.2.2.2.2.2.2.1
  | 21 => P1.2.2.2.2.2.2.2.2.2.1
  | 22 => P1.2.2.2.2.2.2.2.2.2.2.1
  | c => W c
def tP (W : Nat → mF) : Int32 × mF × mF × mF × mF × mF × mF × mF × mF × mF × mF × mF × mF × mF × mF × mF × mF × mF × mF × mF × mF × mF × mF := (0, W 1, W 2, W 3, W 4, W 5, W 6, W 7, W 8, W 9, W 10, W 11, W 12, W 13, W 14, W 15, W 16, W 17, W 18, W 19, W 20, W 21, W 22)
def gP (P0 P1 : Int32 × mF × mF × mF × mF × mF × mF × mF × mF × mF × mF × mF × mF) (prg sndr slnk rcvr rlnk : mF) : Int32 × mF × mF × mF × mF × mF × mF × mF × mF × mF × mF × mF × mF × mF × mF × mF × mF × mF × mF × mF × mF × mF × mF :=
  let u9 := FX8_pass_b1 10000 0 P1.2.2.2.2.2.2.2.2.2.2.2.1 P1.2.2.2.2.2.2.2.2.2.2.2.2 P0.2.2.1 P0.2.2.2.2.1 P0.2.2.2.2.2.1 P0.2.2.2.2.2.2.1 P0.2.2.2.2.2.2.2.1 P0.2.2.2.2.2.2.2.2.1 P0.2.2.2.2.2.2.2.2.2.1 P0.2.2.2.2.2.2.2.2.2.2.1 P1.2.2.1 P1.2.2.2.2.1 P1.2.2.2.2.2.1 P1.2.2.2.2.2.2.1 P1.2.2.2.2.2.2.2.1 P1.2.2.2.2.2.2.2.2.1 P1.2.2.2.2.2.2.2.2.2.1 P1.2.2.2.2.2.2.2.2.2.2.1 prg sndr slnk rcvr rlnk; (0, u9.1, u9.2.1, P0.2.1, u9.2.2.1, P0.2.2.2.1, u9.2.2.2.1, u9.2.2.2.2.1, u9.2.2.2.2.2.1, u9.2.2.2.2.2.2.1, u9.2.2.2.2.2.2.2.1, u9.2.2.2.2.2.2.2.2.1, u9.2.2.2.2.2.2.2.2.2.1, P1.2.1, u9.2.2.2.2.2.2.2.2.2.2.1, P1.2.2.2.1, u9.2.2.2.2.2.2.2.2.2.2.2.1, u9.2.2.2.2.2.2.2.2.2.2.2.2.1, u9.2.2.2.2.2.2.2.2.2.2.2.2.2.1, u9.2.2.2.2.2.2.2.2.2.2.2.2.2.2.1, u9.2.2.2.2.2.2.2.2.2.2.2.2.2.2.2.1, u9.2.2.2.2.2.2.2.2.2.2.2.2.2.2.2.2.1, u9.2.2.2.2.2.2.2.2.2.2.2.2.2.2.2.2.2)
section PAS
variable {W : Nat → mF} {P0 P1 : Int32 × mF × mF × mF × mF × mF × mF × mF × mF × mF × mF × mF × mF} {prg op num sndr slnk rcvr rlnk f fop farg joins n a0 d : mF} {J T : Nat}
theorem pass_e (h0 : P0 = FX3_pass (W 0 2) (W 3) (W 4) (W 5) (W 6) (W 7) (W 8) (W 9) (W 10) (W 11) (W 12) (upd (W 1) 0 (W 1 0 + 1)) (W 2) prg op num) (h1 : P1 = FX3_pass (W 0 2) (W 13) (W 14) (W 15) (W 16) (W 17) (W 18) (W 19) (W 20) (W 21) (W 22) P0.2.2.2.2.2.2.2.2.2.2.2.1 P0.2.2.2.2.2.2.2.2.2.2.2.2 prg op num) : FX8_pass (W 0) (W 1) (W 2) (W 3) (W 4) (W 5) (W 6) (W 7) (W 8) (W 9) (W 10) (W 11) (W 12) (W 13) (W 14) (W 15) (W 16) (W 17) (W 18) (W 19) (W 20) (W 21) (W 22) prg op num sndr slnk rcvr rlnk = gP P0 P1 prg sndr slnk rcvr rlnk := by
  subst h0
  subst h1
  rfl
theorem opass_e (h0 : P0 = FX3_pass (W 0 2) (W 3) (W 4) (W 5) (W 6) (W 7) (W 8) (W 9) (W 10) (W 11) (W 12) (upd (W 1) 0 (W 1 0 + 1)) (W 2) prg op num) (h1 : P1 = FX3_pass (W 0 2) (W 13) (W 14) (W 15) (W 16) (W 17) (W 18) (W 19) (W 20) (W 21) (W 22) P0.2.2.2.2.2.2.2.2.2.2.2.1 P0.2.2.2.2.2.2.2.2.2.2.2.2 prg op num) (a : OX3_pass (W 0 2) (W 3) (W 4) (W 5) (W 6) (W 7) (W 8) (W 9) (W 10) (W 11) (W 12) (upd (W 1) 0 (W 1 0 + 1)) (W 2) prg op num) (b : OX3_pass (W 0 2) (W 13) (W 14) (W 15) (W 16) (W 17) (W 18) (W 19) (W 20) (W 21) (W 22) P0.2.2.2.2.2.2.2.2.2.2.2.1 P0.2.2.2.2.2.2.2.2.2.2.2.2 prg op num) (c : OX8_pass_b1 10000 0 P1.2.2.2.2.2.2.2.2.2.2.2.1 P1.2.2.2.2.2.2.2.2.2.2.2.2 P0.2.2.1 P0.2.2.2.2.1 P0.2.2.2.2.2.1 P0.2.2.2.2.2.2.1 P0.2.2.2.2.2.2.2.1 P0.2.2.2.2.2.2.2.2.1 P0.2.2.2.2.2.2.2.2.2.1 P0.2.2.2.2.2.2.2.2.2.2.1 P1.2.2.1 P1.2.2.2.2.1 P1.2.2.2.2.2.1 P1.2.2.2.2.2.2.1 P1.2.2.2.2.2.2.2.1 P1.2.2.2.2.2.2.2.2.1 P1.2.2.2.2.2.2.2.2.2.1 P1.2.2.2.2.2.2.2.2.2.2.1 prg sndr slnk rcvr rlnk) : OX8_pass (W 0) (W 1) (W 2) (W 3) (W 4) (W 5) (W 6) (W 7) (W 8) (W 9) (W 10) (W 11) (W 12) (W 13) (W 14) (W 15) (W 16) (W 17) (W 18) (W 19) (W 20) (W 21) (W 22) prg op num sndr slnk rcvr rlnk := by
  subst h0
  subst h1
  exact ⟨a, b, c⟩
/-- what holds of a world of rows and the reference's row, between two calls -/
def WI (J : Nat) (joins : mF) (W : Nat → mF) (n : mF) (T : Nat) : Prop := RW2 W n ∧ RD (W 1) (W 2) n T ∧ n 348 = W 0 2 ∧ W 3 0 = 0 ∧ W 13 0 = 1 ∧ RI J joins W
/-- the joins of a program, their number told -/
def RJs (J : Nat) (prg sndr slnk rcvr rlnk f joins : mF) : Prop := J ≤ 4 ∧ prg 7 = nI J ∧ f 35 = nI J ∧ (∀ k, k < J → ∃ s i r j : Nat, s < 2 ∧ i < 2 ∧ r < 2 ∧ j < 2 ∧ sndr k = nI s ∧ slnk k = nI i ∧ rcvr k = nI r ∧ rlnk k = nI j ∧ joins (2 * k) = nI (2 * s + i) ∧ joins (2 * k + 1) = nI (2 * r + j)) ∧ ∀ k k', k < J → k' < J → k ≠ k' → joins (2 * k) ≠ joins (2 * k') ∧ joins (2 * k + 1) ≠ joins (2 * k' + 1)
theorem wT_lk (h0 : P0 = FX3_pass (W 0 2) (W 3) (W 4) (W 5) (W 6) (W 7) (W 8) (W 9) (W 10) (W 11) (W 12) (upd (W 1) 0 (W 1 0 + 1)) (W 2) prg op num) (h1 : P1 = FX3_pass (W 0 2) (W 13) (W 14) (W 15) (W 16) (W 17) (W 18) (W 19) (W 20) (W 21) (W 22) P0.2.2.2.2.2.2.2.2.2.2.2.1 P0.2.2.2.2.2.2.2.2.2.2.2.2 prg op num) {m i : Nat} (hm : m < 2) (hi : i < 2) : LK (W (11 + 10 * m + i)) (wT W P0 P1 (11 + 10 * m + i)) := by
  have a := lk_pass (x2 := W 0 2) (this := W 3) (reg := W 4) (regA := W 5) (mem := W 6) (tz := W 7) (tp := W 8) (tt := W 9) (tb := W 10) (l0 := W 11) (l1 := W 12) (dia := upd (W 1) 0 (W 1 0 + 1)) (mt := W 2) (prg := prg) (op := op) (num := num)
  rw [← h0] at a
  have b := lk_pass (x2 := W 0 2) (this := W 13) (reg := W 14) (regA := W 15) (mem := W 16) (tz := W 17) (tp := W 18) (tt := W 19) (tb := W 20) (l0 := W 21) (l1 := W 22) (dia := P0.2.2.2.2.2.2.2.2.2.2.2.1) (mt := P0.2.2.2.2.2.2.2.2.2.2.2.2) (prg := prg) (op := op) (num := num)
  rw [← h1] at b
  rcases (show m = 0 ∨ m = 1 by omega) with rfl | rfl <;> rcases (show i = 0 ∨ i = 1 by omega) with rfl | rfl
  · exact a.1
  · exact a.2
  · exact b.1
  · exact b.2
theorem p_pass (hW : WI J joins W n T) (hT : T + 6 < 2 ^ 30) (hP : RPg prg op num f fop farg) (hJ : RJs J prg sndr slnk rcvr rlnk f joins) : OX8_pass (W 0) (W 1) (W 2) (W 3) (W 4) (W 5) (W 6) (W 7) (W 8) (W 9) (W 10) (W 11) (W 12) (W 13) (W 14) (W 15) (W 16) (W 17) (W 18) (W 19) (W 20) (W 21) (W 22) prg op num sndr slnk rcvr rlnk ∧ OX10_passes f fop farg joins n a0 d ∧ ∃ W' f' n' a' d', FX8_pass (W 0) (W 1) (W 2) (W 3) (W 4) (W 5) (W 6) (W 7) (W 8) (W 9) (W 10) (W 11) (W 12) (W 13) (W 14) (W 15) (W 16) (W 17) (W 18) (W 19) (W 20) (W 21) (W 22) prg op num sndr slnk rcvr rlnk = tP W' ∧ FX10_passes f fop farg joins n a0 d = (0, f', n', a', d') ∧ (∀ k, k ≠ 45 → k ≠ 46 → f' k = f k) ∧ WI J joins W' n' (T + 6) ∧ d' 0 = W' 3 7 ∧ d' 1 = W' 13 7 ∧ (∀ k, 2 ≤ k → d' k = d k) ∧ W' 0 = W 0 := by
  obtain ⟨w1, w2, w3, w4, w5, w6⟩ := hW
  obtain ⟨j1, j2, j3, j4, j5⟩ := hJ
  have hWd : RWd (W 4) (W 6) (W 7) (W 8) (W 9) (W 10) (W 11) (W 12) (W 14) (W 16) (W 17) (W 18) (W 19) (W 20) (W 21) (W 22) (W 1) (W 2) (W 0) n T := ⟨w1 0 (by decide), w1 1 (by decide), w2, w3⟩
  obtain ⟨p1, P0, hP0, p2, P1, hP1, p3, f1, n1, a1, d1, p4, p5, f2, n2, a2, d2, p6, p7, p8, p9, p10, p11, p12, p13⟩ := p_two (a0 := a0) (d := d) (qa := W 5) (qb := W 15) hWd (by omega) hP w4 w5
  obtain ⟨r1, r2, r3, r4⟩ := p8
  have hR : RW2 (wT W P0 P1) n2 := by
    intro m hm
    rcases (show m = 0 ∨ m = 1 by omega) with rfl | rfl
    · exact r1
    · exact r2
  have hI : RI J joins (wT W P0 P1) := by
    intro k s i r j hk hs hi hr hj e1 e2 e7 e0
    obtain ⟨a7, -⟩ := wT_lk hP0 hP1 hr hj
    obtain ⟨-, b0⟩ := wT_lk hP0 hP1 hs hi
    have q := w6 k s i r j hk hs hi hr hj e1 e2 (a7.symm.trans e7)
    rcases b0 with b0 | b0
    · exact q (b0.symm.trans e0)
    · exact q b0
  have hf46 : upd f2 46 0 46 = 0 := pk_us
  have hf35 : upd f2 46 0 35 = nI J := (pk_un (by decide)).trans ((p7 35 (by decide) (by decide)).trans j3)
  obtain ⟨l1, l2, W', f', n', l3, l4, l5, l6, l7, l8, l9, l10⟩ := l_joins (prg := prg) (sndr := sndr) (slnk := slnk) (rcvr := rcvr) (rlnk := rlnk) j1 j2 j4 j5 J 0 10000 (T + 2) (wT W P0 P1) (upd f2 46 0) n2 (by omega) (by omega) hR r3 (by omega) hf46 hf35 hI
  rw [nI_0] at l1 l2 l3 l4
  have k0 : W' 0 = W 0 := l9 0 (Or.inl rfl)
  have k3 : W' 3 = P0.2.1 := l9 3 (Or.inr (Or.inl rfl))
  have k5 : W' 5 = P0.2.2.2.1 := l9 5 (Or.inr (Or.inr (Or.inl rfl)))
  have k13 : W' 13 = P1.2.1 := l9 13 (Or.inr (Or.inr (Or.inr (Or.inl rfl))))
  have k15 : W' 15 = P1.2.2.2.1 := l9 15 (Or.inr (Or.inr (Or.inr (Or.inr rfl))))
  refine ⟨opass_e hP0 hP1 p1 p2 l1, ?_, W', f', n', a2, d2, ?_, ?_, fun k q5 q6 => (l8 k q5).trans ((pk_un q6).trans (p7 k q5 q6)), ⟨l5, RD_c l6 (by omega) (fun _ _ => rfl), ?_, ?_, ?_, l10⟩, ?_, ?_, p11, k0⟩
  · unfold OX10_passes
    refine ⟨p3, ?_⟩
    rw [p4]
    refine ⟨p5, ?_⟩
    dsimp only
    rw [p6]
    exact l2
  · rw [pass_e hP0 hP1]
    unfold gP tP
    have l3 : FX8_pass_b1 10000 0 P1.2.2.2.2.2.2.2.2.2.2.2.1 P1.2.2.2.2.2.2.2.2.2.2.2.2 P0.2.2.1 P0.2.2.2.2.1 P0.2.2.2.2.2.1 P0.2.2.2.2.2.2.1 P0.2.2.2.2.2.2.2.1 P0.2.2.2.2.2.2.2.2.1 P0.2.2.2.2.2.2.2.2.2.1 P0.2.2.2.2.2.2.2.2.2.2.1 P1.2.2.1 P1.2.2.2.2.1 P1.2.2.2.2.2.1 P1.2.2.2.2.2.2.1 P1.2.2.2.2.2.2.2.1 P1.2.2.2.2.2.2.2.2.1 P1.2.2.2.2.2.2.2.2.2.1 P1.2.2.2.2.2.2.2.2.2.2.1 prg sndr slnk rcvr rlnk = tB W' := l3
    rw [l3, k3, k5, k13, k15]
    rfl
  · unfold FX10_passes
    rw [p4]
    dsimp only
    rw [p6]
    dsimp only
    rw [l4]
  · rw [l7, k0]
    exact r4
  · rw [k3, p12 0 (by decide)]
    exact w4
  · rw [k13, p13 0 (by decide)]
    exact w5
  · rw [k3]
    exact p9
  · rw [k13]
    exact p10
end PAS
