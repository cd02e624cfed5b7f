/-! PURE: text, asked of both sides (GENERATED, wip/gen/p/96.py) -/
section TXT
variable {W : Nat → mF} {t hist kc R f tp tr nm un up us prg op num ln la snd slk rcv rlk rm rw_ rp ra mem rop rnum rla rmem rruns rj asP asB fop farg flb jn n kp : mF} {fl named rlb asked : mFl} {s : Nat}
theorem ax_f0 {f f' : mF} (h : AX (f0 f) f') : f' 4 = 0 ∧ ∀ k, 33 ≤ k → k ≠ 36 → k ≠ 37 → f' k = f k := by
  refine ⟨(h 4 (Or.inl rfl) (by decide) (by decide)).trans ((pk_un (by decide)).trans pk_us), fun k h1 h2 h3 => (h k (Or.inr h1) h2 h3).trans ?_⟩
  exact (pk_un (by omega)).trans ((pk_un (by omega)).trans ((pk_un (by omega)).trans (pk_un (by omega))))
theorem c_text (hN : NMS nm named) (hT : TP tp tr) (hs : s ≤ 700) (h1 : t 1 = nI s) (h4 : f 4 = nI s) (h3 : W 3 0 = 0) (h13 : W 13 0 = 1) (hb0 : ∀ k, k < 12 → (W 10 k = 0 ∨ W 10 k = 1)) (hb1 : ∀ k, k < 12 → (W 20 k = 0 ∨ W 20 k = 1)) : OX10_text f fl named tr rop rnum rla rmem rruns rj fop farg flb jn rlb asked asP asB n kp ∧ ((¬ (FX5_read (t 1) tp R nm un up us prg op num ln la snd slk rcv rlk rm rw_ rp ra mem).1 = -1 ∧ OX9_text_f t tp R nm un up us prg op num ln la snd slk rcv rlk rm rw_ rp ra mem ∧ (FX9_text_f t tp R nm un up us prg op num ln la snd slk rcv rlk rm rw_ rp ra mem).2.1 = upd t 1 0 ∧ ∃ (f' rop' rnum' rla' rmem' rruns' rj' asP' asB' : mF) (fl' rlb' asked' : mFl), FX10_text f fl named tr rop rnum rla rmem rruns rj fop farg flb jn rlb asked asP asB n kp = ((FX9_text_f t tp R nm un up us prg op num ln la snd slk rcv rlk rm rw_ rp ra mem).1, f', fl', rop', rnum', rla', rmem', rruns', rj', fop, farg, flb, jn, rlb', asked', asP', asB', n, kp) ∧ f' 4 = 0 ∧ ∀ k, 33 ≤ k → k ≠ 36 → k ≠ 37 → f' k = f k) ∨ ((FX5_read (t 1) tp R nm un up us prg op num ln la snd slk rcv rlk rm rw_ rp ra mem).1 = -1 ∧ OX9_text_s t tp R nm un up us (W 0) (W 1) (W 3) (W 4) (W 6) (W 7) (W 11) (W 12) (W 13) (W 14) (W 16) (W 17) (W 21) (W 22) prg op num ln la snd slk rcv rlk rm rw_ rp ra mem hist kc ∧ ∃ (v : Int32) (L K J : Nat) (R' un' up' us' prg' op' num' ln' la' snd' slk' rcv' rlk' rm' rw_' rp' ra' mem' f' rop' rnum' rla' rmem' rruns' rj' asP' asB' fop' farg' flb' jn' n2 x0 x1 r0 e0 t0 a0 b0 r1 e1 t1 a1 b1 : mF) (fl' rlb' asked' : mFl), FX9_text_s t tp R nm un up us (W 0) (W 1) (W 3) (W 4) (W 6) (W 7) (W 11) (W 12) (W 13) (W 14) (W 16) (W 17) (W 21) (W 22) prg op num ln la snd slk rcv rlk rm rw_ rp ra mem hist kc = (v, upd t 1 0, R', un', up', us', x0, x1, r0, e0, t0, a0, b0, r1, e1, t1, a1, b1, prg', op', num', ln', la', snd', slk', rcv', rlk', rm', rw_', rp', ra', mem', upd hist 0 0, upd (upd kc 0 0) 1 0) ∧ FX10_text f fl named tr rop rnum rla rmem rruns rj fop farg flb jn rlb asked asP asB n kp = (v, f', fl', rop', rnum', rla', rmem', rruns', rj', fop', farg', flb', jn', rlb', asked', asP', asB', n2, upd (upd kp 0 0) 1 0) ∧ f' 4 = 0 ∧ f' 44 = 0 ∧ (RPg prg' op' num' f' fop' farg' ∧ JN0 op' num' L ∧ L ≤ 100 ∧ prg' 1 = nI L ∧ f' 33 = nI L ∧ ∀ k, k < L → fop' k = op' k ∧ farg' k = num' k) ∧ (K ≤ 100 ∧ prg' 4 = nI K ∧ f' 34 = nI K ∧ ∀ k, k < K → flb' k = la' k) ∧ RJs J prg' snd' slk' rcv' rlk' f' jn' ∧ WI J jn' (wB W x0 x1 r0 e0 t0 a0 b0 r1 e1 t1 a1 b1) n2 0)) := by
  have z10 : ¬ (1 : Int32) = 0 := by decide
  obtain ⟨r1, r2, m1, r3, r4, f2, fl2, r5, r6, r7⟩ := p_read (R := R) (nm := nm) (un := un) (up := up) (us := us) (prg := prg) (op := op) (num := num) (ln := ln) (la := la) (snd := snd) (slk := slk) (rcv := rcv) (rlk := rlk) (rm := rm) (rw_ := rw_) (rp := rp) (ra := ra) (mem := mem) (rop := rop) (rnum := rnum) (rla := rla) (rmem := rmem) (rruns := rruns) (rj := rj) (rlb := rlb) (asked := asked) (asP := asP) (asB := asB) (fl := fl) (named := named) hN hT hs h4
  rw [← h1] at r1 r7
  have r3' : FX10_plain (upd (upd (upd (upd f 0 0) 5 (f 4)) 4 0) 6 0) rmem = (0, fp (f0 f), m1) := r3
  rcases r7 with ⟨R', f', un', up', us', prg', op', num', ln', la', snd', slk', rcv', rlk', rm', rw_', rp', ra', mem', rop', rnum', rla', rmem', rruns', rj', asP', asB', numf, raf, rnumf, rrunsf, fl', rlb', asked', L, K, N, U, J, e1, e2, e3, e4, e5⟩ | ⟨f', rest, e1, e2, e3, e4⟩
  · obtain ⟨ax4, ax⟩ := ax_f0 e5
    obtain ⟨b1, b2, f3, fop', farg', flb', jn', n2, x0, x1, q0, y0, t0, l0, l1, q1, y1, t1, l2, l3, b3, b4, b5, b6, b7, b8, b9, b10⟩ := p_begins (W := W) (fop := fop) (farg := farg) (flb := flb) (jn := jn) (n := n) (kp := kp) e3 e4 h3 h13 hb0 hb1
    refine ⟨?_, Or.inr ⟨by rw [e1], ?_, prg' 1, L, K, J, R', un', up', us', prg', op', numf, ln', la', snd', slk', rcv', rlk', rm', rw_', rp', raf, mem', f3, rop', rnumf, rla', rmem', rrunsf, rj', asP', asB', fop', farg', flb', jn', n2, x0, x1, q0, y0, t0, l0, l1, q1, y1, t1, l2, l3, fl', rlb', asked', ?_, ?_, ?_, b6, b7, b8, b9, b10⟩⟩
    · unfold OX10_text
      refine ⟨r2, ?_⟩
      rw [r3']
      refine ⟨r4, ?_⟩
      dsimp only
      rw [r5]
      refine ⟨r6, ?_⟩
      dsimp only
      rw [e2]
      exact ⟨fun _ => trivial, fun _ => b2⟩
    · unfold OX9_text_s
      refine ⟨r1, ?_⟩
      rw [e1]
      exact ⟨fun _ => b1, fun z => absurd rfl z⟩
    · unfold FX9_text_s
      rw [e1]
      refine (if_pos rfl).trans ?_
      dsimp only
      rw [b4]
      unfold FX1_forget
      dsimp only
    · unfold FX10_text
      rw [r3']
      dsimp only
      rw [r5]
      dsimp only
      rw [e2]
      refine (if_neg z10).trans ?_
      dsimp only
      rw [b3]
      dsimp only
      rw [b7.2.2.2.2.1, b7.2.2.2.1]
    · exact (b5 4 (by decide) (by decide) (by decide) (by decide) (by decide) (by decide)).trans ax4
  · obtain ⟨ax4, ax⟩ := ax_f0 e4
    refine ⟨?_, Or.inl ⟨e2, ?_, ?_, f', rest.2.1, rest.2.2.1, rest.2.2.2.1, rest.2.2.2.2.1, rest.2.2.2.2.2.1, rest.2.2.2.2.2.2.1, rest.2.2.2.2.2.2.2.2.2.1, rest.2.2.2.2.2.2.2.2.2.2, rest.1, rest.2.2.2.2.2.2.2.1, rest.2.2.2.2.2.2.2.2.1, ?_, ax4, ax⟩⟩
    · unfold OX10_text
      refine ⟨r2, ?_⟩
      rw [r3']
      refine ⟨r4, ?_⟩
      dsimp only
      rw [r5]
      refine ⟨r6, ?_⟩
      dsimp only
      rw [e1]
      exact ⟨fun _ => trivial, fun z => absurd rfl z⟩
    · unfold OX9_text_f
      exact ⟨r1, fun z => absurd z e2, fun _ => trivial⟩
    · unfold FX9_text_f
      dsimp only
      rw [if_neg e2]
    · have ev : (FX9_text_f t tp R nm un up us prg op num ln la snd slk rcv rlk rm rw_ rp ra mem).1 = -2 - (FX5_read (t 1) tp R nm un up us prg op num ln la snd slk rcv rlk rm rw_ rp ra mem).1 := by
        unfold FX9_text_f
        dsimp only
        rw [if_neg e2]
      rw [ev, e3]
      unfold FX10_text
      rw [r3']
      dsimp only
      rw [r5]
      dsimp only
      rw [e1]
      exact if_pos rfl
end TXT
