/-! PURE: both sides as they are made (GENERATED, wip/gen/p/98.py) -/
section FST
variable {W : Nat → mF} {op num la snd slk rcv rlk rm rw_ rp ra : mF} {fl : mFl}
def zF : mF := fun _ => 0
theorem c_first (h3 : W 3 0 = 0) (h13 : W 13 0 = 1) (hb0 : ∀ k, k < 12 → (W 10 k = 0 ∨ W 10 k = 1)) (hb1 : ∀ k, k < 12 → (W 20 k = 0 ∨ W 20 k = 1)) : OX9_init_t (W 0) (W 1) (W 3) (W 4) (W 6) (W 7) (W 11) (W 12) (W 13) (W 14) (W 16) (W 17) (W 21) (W 22) (FX4_empty zF zF).2.1 rm rw_ rp ra (FX4_empty zF zF).2.2 ∧ OX10_init_t 0 zF fl zF zF zF zF zF zF zF zF zF zF zF zF ∧ ∃ (f3 rmem' fop' farg' flb' jn' n2 x0 x1 r0 e0 t0 a0 b0 r1 e1 t1 a1 b1 : mF) (fl' : mFl), FX9_init_t (W 0) (W 1) (W 3) (W 4) (W 6) (W 7) (W 11) (W 12) (W 13) (W 14) (W 16) (W 17) (W 21) (W 22) (FX4_empty zF zF).2.1 rm rw_ rp ra (FX4_empty zF zF).2.2 = (0, x0, x1, r0, e0, t0, a0, b0, r1, e1, t1, a1, b1) ∧ FX10_init_t 0 zF fl zF zF zF zF zF zF zF zF zF zF zF zF = (0, f3, fl', rmem', fop', farg', flb', jn', n2, upd (upd zF 0 0) 1 0) ∧ NMS nm0 fl' ∧ f3 4 = 0 ∧ f3 44 = 0 ∧ (RPg (FX4_empty zF zF).2.1 op num f3 fop' farg' ∧ JN0 op num 0 ∧ 0 ≤ 100 ∧ (FX4_empty zF zF).2.1 1 = nI 0 ∧ f3 33 = nI 0 ∧ ∀ k, k < 0 → fop' k = op k ∧ farg' k = num k) ∧ (0 ≤ 100 ∧ (FX4_empty zF zF).2.1 4 = nI 0 ∧ f3 34 = nI 0 ∧ ∀ k, k < 0 → flb' k = la k) ∧ RJs 0 (FX4_empty zF zF).2.1 snd slk rcv rlk f3 jn' ∧ WI 0 jn' (wB W x0 x1 r0 e0 t0 a0 b0 r1 e1 t1 a1 b1) n2 0 := by
  obtain ⟨a1, a2⟩ := l_fill 192 0 10000 zF (by decide) (by decide)
  obtain ⟨b1, b2⟩ := l_plain 192 0 10000 zF (by decide) (by decide)
  rw [nI_0] at a1 a2 b1 b2
  obtain ⟨n1, f1, fl1, n2, n3, n4⟩ := names_ok fl
  have n1 : OX10_init_t_b1 10000 0 zF fl := n1
  have n2 : FX10_init_t_b1 10000 0 zF fl = (f1, fl1) := n2
  have ee : FX4_empty zF zF = (0, pz0 zF, FJ_fill_192_b1 10000 (-1) 192 0 zF) := by
    have e1 : FJ_fill_192 (-1) zF = (0, FJ_fill_192_b1 10000 (-1) 192 0 zF) := by
      unfold FJ_fill_192
      dsimp only
    unfold FX4_empty pz0
    rw [e1]
  have opl : OX10_plain f1 zF := by
    unfold OX10_plain
    exact b1
  have epl : FX10_plain f1 zF = (0, fp f1, FX10_plain_b1 10000 0 zF) := by
    unfold FX10_plain fp
    exact rfl
  generalize hm : FJ_fill_192_b1 10000 (-1) 192 0 zF = mm at *
  generalize hmr : FX10_plain_b1 10000 0 zF = mr at *
  have z : ∀ k : Nat, ¬ k < 0 := fun k => Nat.not_lt_zero k
  have hP : PR 0 0 0 0 0 (upd (upd zF 9 (-1)) 4 0) (fp f1) zF zF zF (pz0 zF) op num zF la snd slk rcv rlk rm rw_ rp ra mm zF zF zF mr zF zF (fun _ => 0) (fun _ => 0) zF zF := by
    refine ⟨⟨rfl, rfl, rfl, rfl⟩, ⟨rfl, rfl, rfl, rfl, rfl⟩, ⟨rfl, rfl, rfl, rfl⟩, by decide, fun k hk => absurd hk (z k), ⟨fun k hk => absurd hk (z k), fun k k' hk => absurd hk (z k)⟩, ⟨fun k hk => absurd hk (z k), fun k hk => absurd hk (z k)⟩, fun k hk => absurd hk (z k), ⟨fun _ => 0, fun k hk => absurd hk (z k), fun k k' hk => absurd hk (z k)⟩, ⟨fun _ => 0, fun k hk => absurd hk (z k), fun k k' hk => absurd hk (z k)⟩, fun k hk => ?_⟩
    rw [b2 k hk, a2 k hk]
  have hF : FU 0 0 0 op num zF zF ra zF rm rw_ rp := ⟨fun k hk => absurd hk (z k), fun k hk => absurd hk (z k), fun k hk => absurd hk (z k)⟩
  obtain ⟨c1, c2, f3, fop', farg', flb', jn', nn, x0, x1, q0, y0, t0, l0, l1, q1, y1, t1, l2, l3, c3, c4, c5, c6, c7, c8, c9, c10⟩ := p_begins (W := W) (fop := zF) (farg := zF) (flb := zF) (jn := zF) (n := zF) (kp := zF) hP hF h3 h13 hb0 hb1
  rw [ee]
  dsimp only
  refine ⟨?_, ?_, f3, mr, fop', farg', flb', jn', nn, x0, x1, q0, y0, t0, l0, l1, q1, y1, t1, l2, l3, fl1, ?_, ?_, n4, ?_, c6, c7, c8, c9, c10⟩
  · unfold OX9_init_t
    exact c1
  · unfold OX10_init_t
    rw [n2]
    refine ⟨n1, opl, ?_⟩
    dsimp only
    rw [epl]
    exact c2
  · unfold FX9_init_t
    rw [c4]
  · unfold FX10_init_t
    rw [n2]
    dsimp only
    rw [epl]
    dsimp only
    rw [c3]
  · exact (c5 4 (by decide) (by decide) (by decide) (by decide) (by decide) (by decide)).trans ((pk_un (by decide)).trans ((pk_un (by decide)).trans ((pk_un (by decide)).trans ((pk_un (by decide)).trans ((pk_un (by decide)).trans ((pk_un (by decide)).trans ((pk_un (by decide)).trans (n3 4 (by decide)))))))))
end FST
