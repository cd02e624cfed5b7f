/-! PURE: begins whole (GENERATED, wip/gen/p/95.py) -/
section BGA
variable {W : Nat → mF} {R f un up us prg op num ln la snd slk rcv rlk rm rw_ rp ra mem rop rnum rla rmem rruns rj asP asB numf rnumf raf rrunsf fop farg flb jn n kp : mF} {rlb asked : mFl} {L K N U J : Nat}
/-- the reference's numbers as it begins -/
def gB (f : mF) : mF := upd (upd (upd f 33 (f 27)) 34 (f 28)) 35 (f 30)
theorem p_begins (hP : PR L K N U J R f un up us prg op num ln la snd slk rcv rlk rm rw_ rp ra mem rop rnum rla rmem rruns rj rlb asked asP asB) (hF : FU U L N op numf rnumf us raf rrunsf rm rw_ rp) (h3 : W 3 0 = 0) (h13 : W 13 0 = 1) (hb0 : ∀ k, k < 12 → (W 10 k = 0 ∨ W 10 k = 1)) (hb1 : ∀ k, k < 12 → (W 20 k = 0 ∨ W 20 k = 1)) : OX8_begin (W 0) (W 1) (W 3) (W 4) (W 6) (W 7) (W 11) (W 12) (W 13) (W 14) (W 16) (W 17) (W 21) (W 22) prg rm rw_ rp raf mem ∧ OX10_begins f rop rnumf rla rmem rrunsf rj fop farg flb jn n kp ∧ ∃ (f3 fop' farg' flb' jn' n2 x0 x1 r0 e0 t0 a0 b0 r1 e1 t1 a1 b1 : mF), FX10_begins f rop rnumf rla rmem rrunsf rj fop farg flb jn n kp = (0, f3, fop', farg', flb', jn', n2, upd (upd kp 0 0) 1 0) ∧ FX8_begin (W 0) (W 1) (W 3) (W 4) (W 6) (W 7) (W 11) (W 12) (W 13) (W 14) (W 16) (W 17) (W 21) (W 22) prg rm rw_ rp raf mem = (0, x0, x1, r0, e0, t0, a0, b0, r1, e1, t1, a1, b1) ∧ (∀ k, k ≠ 33 → k ≠ 34 → k ≠ 35 → k ≠ 44 → k ≠ 45 → k ≠ 46 → f3 k = f k) ∧ f3 44 = 0 ∧ (RPg prg op numf f3 fop' farg' ∧ JN0 op numf L ∧ L ≤ 100 ∧ prg 1 = nI L ∧ f3 33 = nI L ∧ ∀ k, k < L → fop' k = op k ∧ farg' k = numf k) ∧ (K ≤ 100 ∧ prg 4 = nI K ∧ f3 34 = nI K ∧ ∀ k, k < K → flb' k = la k) ∧ RJs J prg snd slk rcv rlk f3 jn' ∧ WI J jn' (wB W x0 x1 r0 e0 t0 a0 b0 r1 e1 t1 a1 b1) n2 0 := by
  have hP0 := hP
  obtain ⟨-, ⟨p5, p6, p7, p8, p9⟩, ⟨p10, p11, p12, p13⟩, ⟨i1, i2, i3, i4, i5⟩, -, -, -, -, -, -, c7⟩ := hP
  have g33 : gB f 33 = nI L := (pk_un (by decide)).trans ((pk_un (by decide)).trans (pk_us.trans p7))
  have g34 : gB f 34 = nI K := (pk_un (by decide)).trans (pk_us.trans p9)
  have g35 : gB f 35 = nI J := pk_us.trans p11
  have gk : ∀ k, k ≠ 33 → k ≠ 34 → k ≠ 35 → gB f k = f k := fun k a b c => (pk_un c).trans ((pk_un b).trans (pk_un a))
  obtain ⟨a1, a2⟩ := l_bg1 (rop := rop) (rnum := rnumf) g33 i1 L 0 10000 fop farg (by omega) (by omega)
  obtain ⟨b1, b2⟩ := l_bg3 (rla := rla) g34 (by omega) K 0 10000 flb (by omega) (by omega)
  obtain ⟨d1, d2⟩ := l_bg5 (rj := rj) g35 i4 (2 * J) 0 10000 jn (by omega) (by omega)
  rw [nI_0] at a1 a2 b1 b2 d1 d2
  obtain ⟨e1, e2, e3, f1, n1, e4, e5, f2, n2, x0, x1, r0, y0, t0, l0, l1, r1, y1, t1, l2, l3, e6, e7, e8, e9, e10, e11, e12, e13, e14, e15⟩ := p_wbegins (W := W) (n := n) (f := gB f) h3 h13 hb0 hb1 i3 p12 ((gk 29 (by decide) (by decide) (by decide)).trans p13) (p5.trans (gk 31 (by decide) (by decide) (by decide)).symm) c7 (pr_runs hP0 hF)
  rw [gk 31 (by decide) (by decide) (by decide)] at e3 e4
  have k3 : ∀ k, k ≠ 44 → k ≠ 45 → k ≠ 46 → upd f2 44 0 k = gB f k := fun k a b c => (pk_un a).trans (e8 k b c)
  refine ⟨e1, ?_, upd f2 44 0, (FX10_begins_b1 10000 0 (gB f) rop rnumf fop farg).1, (FX10_begins_b1 10000 0 (gB f) rop rnumf fop farg).2, FX10_begins_b3 10000 0 (gB f) rla flb, FX10_begins_b5 10000 0 (gB f) rj jn, n2, x0, x1, r0, y0, t0, l0, l1, r1, y1, t1, l2, l3, ?_, e7, fun k q1 q2 q3 q4 q5 q6 => (k3 k q4 q5 q6).trans (gk k q1 q2 q3), pk_us, ?_, ?_, ?_, ?_⟩
  · unfold OX10_begins
    refine ⟨a1, b1, d1, e2, e3, ?_⟩
    have e4' : FX10_begins_b9 10000 0 (upd (upd (upd f 33 (f 27)) 34 (f 28)) 35 (f 30)) rmem (upd (FX10_begins_b7 10000 0 n) 348 (f 31)) = (f1, n1) := e4
    dsimp only
    rw [e4']
    exact e5
  · have e4' : FX10_begins_b9 10000 0 (upd (upd (upd f 33 (f 27)) 34 (f 28)) 35 (f 30)) rmem (upd (FX10_begins_b7 10000 0 n) 348 (f 31)) = (f1, n1) := e4
    unfold FX10_begins gB
    dsimp only
    rw [e4']
    dsimp only
    rw [e6]
  · exact pr_code hP0 hF ((k3 33 (by decide) (by decide) (by decide)).trans (g33.trans p7.symm)) (fun k hk => by
      obtain ⟨q1, q2⟩ := a2 k hk
      rw [if_pos (Nat.zero_le _)] at q1 q2
      exact ⟨q1, q2⟩)
  · exact pr_labels hP0 ((k3 34 (by decide) (by decide) (by decide)).trans (g34.trans p9.symm)) (fun k hk => by
      rw [b2 k hk, if_pos (Nat.zero_le _)])
  · exact pr_joins hP0 ((k3 35 (by decide) (by decide) (by decide)).trans (g35.trans p11.symm)) (fun k hk => by
      rw [d2 k hk, if_pos (Nat.zero_le _)])
  · exact ⟨e9, e10, e11, h3, h13, lke_RI e12 e13 e14 e15⟩
end BGA
