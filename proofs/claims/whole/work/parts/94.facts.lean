/-! PURE: what was read, as the calls want it (GENERATED, wip/gen/p/94.py) -/
section PRF
variable {R f un up us prg op num ln la snd slk rcv rlk rm rw_ rp ra mem rop rnum rla rmem rruns rj asP asB numf rnumf raf rrunsf fop farg f2 jn flb : mF} {rlb asked : mFl} {L K N U J : Nat}
theorem pr_runs (hP : PR L K N U J R f un up us prg op num ln la snd slk rcv rlk rm rw_ rp ra mem rop rnum rla rmem rruns rj rlb asked asP asB) (hF : FU U L N op numf rnumf us raf rrunsf rm rw_ rp) : RNf N rm rw_ rp raf rrunsf := by
  obtain ⟨-, -, -, -, -, -, hu, hr, -⟩ := hP
  intro k hk
  obtain ⟨-, -, -, -, ⟨m, h1, h2⟩, ⟨wv, h3, h4, h5⟩, p, h6, h7⟩ := hr k hk
  obtain ⟨a1, a2, a3⟩ := hF.2.1 k hk
  obtain ⟨a4, -⟩ := hF.2.2 k hk (hu.2 k hk)
  refine ⟨a1, a2, a3, a4, ⟨m, h1, h2⟩, ⟨wv, h3, h4, h5⟩, ?_⟩
  rcases (show p = 0 ∨ p = 1 by omega) with rfl | rfl
  · exact Or.inl h7
  · exact Or.inr h7
theorem pr_code (hP : PR L K N U J R f un up us prg op num ln la snd slk rcv rlk rm rw_ rp ra mem rop rnum rla rmem rruns rj rlb asked asP asB) (hF : FU U L N op numf rnumf us raf rrunsf rm rw_ rp) (h33 : f2 33 = f 27) (h1 : ∀ k, k < L → fop k = rop k ∧ farg k = rnumf k) : RPg prg op numf f2 fop farg ∧ JN0 op numf L ∧ L ≤ 100 ∧ prg 1 = nI L ∧ f2 33 = nI L ∧ ∀ k, k < L → fop k = op k ∧ farg k = numf k := by
  obtain ⟨-, ⟨-, p6, p7, -, -⟩, -, ⟨i1, -⟩, hc, -⟩ := hP
  have e : ∀ k, k < L → fop k = op k ∧ farg k = numf k := fun k hk => ⟨(h1 k hk).1.trans (hc k hk).1, (h1 k hk).2.trans (hF.1 k hk).1⟩
  exact ⟨⟨L, i1, p6, h33.trans p7, fun k hk => ⟨(e k hk).1, (e k hk).2, (hc k hk).2.2.1⟩⟩, fun k hk => (hF.1 k hk).2, i1, p6, h33.trans p7, e⟩
theorem pr_joins (hP : PR L K N U J R f un up us prg op num ln la snd slk rcv rlk rm rw_ rp ra mem rop rnum rla rmem rruns rj rlb asked asP asB) (h35 : f2 35 = f 30) (h1 : ∀ k, k < 2 * J → jn k = rj k) : RJs J prg snd slk rcv rlk f2 jn := by
  obtain ⟨-, -, ⟨p10, p11, -, -⟩, ⟨-, -, -, i4, -⟩, -, -, -, -, ⟨g0, c5⟩, ⟨g1, c6⟩, -⟩ := hP
  refine ⟨i4, p10, h35.trans p11, fun k hk => ?_, fun k k' hk hk' ne => ⟨?_, ?_⟩⟩
  · obtain ⟨s, i, a1, a2, a3, a4, a5, a6⟩ := c5.1 k hk
    obtain ⟨r, j, b1, b2, b3, b4, b5, b6⟩ := c6.1 k hk
    exact ⟨s, i, r, j, a1, a2, b1, b2, a3, a4, b3, b4, (h1 _ (by omega)).trans (a6.trans (by rw [a5])), (h1 _ (by omega)).trans (b6.trans (by rw [b5]))⟩
  · obtain ⟨s, i, a1, a2, a3, a4, a5, a6⟩ := c5.1 k hk
    obtain ⟨s', i', a1', a2', a3', a4', a5', a6'⟩ := c5.1 k' hk'
    have d := c5.2 k k' hk hk' ne
    intro z
    rw [h1 _ (by omega), h1 _ (by omega)] at z
    have := (nI_eq (by omega) (by omega)).mp (a6.symm.trans (z.trans a6'))
    exact d this
  · obtain ⟨s, i, a1, a2, a3, a4, a5, a6⟩ := c6.1 k hk
    obtain ⟨s', i', a1', a2', a3', a4', a5', a6'⟩ := c6.1 k' hk'
    have d := c6.2 k k' hk hk' ne
    intro z
    rw [h1 _ (by omega), h1 _ (by omega)] at z
    have := (nI_eq (by omega) (by omega)).mp (a6.symm.trans (z.trans a6'))
    exact d this
theorem pr_labels (hP : PR L K N U J R f un up us prg op num ln la snd slk rcv rlk rm rw_ rp ra mem rop rnum rla rmem rruns rj rlb asked asP asB) (h34 : f2 34 = f 28) (h1 : ∀ k, k < K → flb k = rla k) : K ≤ 100 ∧ prg 4 = nI K ∧ f2 34 = nI K ∧ ∀ k, k < K → flb k = la k := by
  obtain ⟨-, ⟨-, -, -, p8, p9⟩, -, ⟨i1, i2, -⟩, -, hl, -⟩ := hP
  exact ⟨by omega, p8, h34.trans p9, fun k hk => (h1 k hk).trans (hl.1 k hk).2.1⟩
theorem lke_RI {W : Nat → mF} {jn : mF} {J : Nat} (h1 : lke (W 11)) (h2 : lke (W 12)) (h3 : lke (W 21)) (h4 : lke (W 22)) : RI J jn W := by
  intro k s i r j _ _ _ hr hj _ _ z
  have e : W (11 + 10 * r + j) 7 = 0 := by
    rcases (show r = 0 ∨ r = 1 by omega) with rfl | rfl <;> rcases (show j = 0 ∨ j = 1 by omega) with rfl | rfl
    · exact h1.2.2.2.2.1
    · exact h2.2.2.2.2.1
    · exact h3.2.2.2.2.1
    · exact h4.2.2.2.2.1
  rw [e] at z
  exact absurd z (by decide)
end PRF
