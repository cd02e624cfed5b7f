/-! PURE: the lines that tell a slice and a word (GENERATED, wip/gen/p/78.py) -/
section LSW
variable {R f tp tr nm un up us asP asB prg mem rmem : mF} {fl named asked : mFl} {S lo : Nat}
theorem p_next {Rm fm : mF} (hT : TP tp tr) (hS : S ≤ 700) (h : TK S lo R f fl) (hk : R 5 = 2) (r2 : Rm 2 = R 2) (r7 : Rm 7 = R 7) (f5 : fm 5 = f 5) (f6 : fm 6 = f 6) : OX5_scan tp Rm ∧ OX10_go fm fl tr ∧ ∃ (R' f' : mF) (fl' : mFl), FX5_scan tp Rm = (0, R') ∧ FX10_go fm fl tr = (0, f', fl') ∧ TK S lo R' f' fl' ∧ AR Rm R' ∧ AF fm f' := by
  obtain ⟨h2, h5, -, -⟩ := id h
  rcases TK_2 h with ⟨-, -, -, q, q1, q2, q3, q4⟩ | ⟨k1, -⟩
  · obtain ⟨s1, s2, R', f', fl', s3, s4, s5, s6, s7⟩ := p_scan (R := Rm) (f := fm) (fl := fl) hT hS (r2.trans h2) (f5.trans h5) q2 (r7.trans q3) (f6.trans q4)
    exact ⟨s1, s2, R', f', fl', s3, s4, TK_lo s5 (by omega), s6, s7⟩
  · exact absurd hk k1
theorem rng {v : Int32} {a b : Nat} (h1 : ¬ v < nI a) (h2 : ¬ nI b < v) (hb : b < 2 ^ 31) : a < 2 ^ 31 → ∃ j : Nat, a ≤ j ∧ j ≤ b ∧ v = nI j := by
  intro ha
  have p : ¬ v < 0 := fun z => h1 (Int32.lt_of_lt_of_le z (nI_pos' ha))
  obtain ⟨j, hj, rfl⟩ := nI_of p
  refine ⟨j, ?_, ?_, rfl⟩
  · rcases Nat.lt_or_ge j a with q | q
    · exact absurd (nI_lt q ha) h1
    · exact q
  · rcases Nat.lt_or_ge b j with q | q
    · exact absurd (nI_lt q hj) h2
    · exact q
theorem p_slice (hT : TP tp tr) (hS : S ≤ 700) (h : TK S lo R f fl) (h9 : R 9 = -1) (hk : R 5 = 2) (h4 : R 4 = f 36) : OX5_readSlice tp R prg ∧ OX10_readsSlice f fl tr ∧ ((∃ (v : Int32) (R' f' : mF) (fl' : mFl), FX5_readSlice tp R prg = (0, R', upd prg 0 v) ∧ FX10_readsSlice f fl tr = (1, f', fl') ∧ TK S lo R' f' fl' ∧ AR (upd R 4 1) R' ∧ AN (upd (upd f 36 1) 31 v) f') ∨ ∃ (R' prg' f' : mF) (fl' : mFl), FX5_readSlice tp R prg = (0, R', prg') ∧ FX10_readsSlice f fl tr = (0, f', fl') ∧ RF R' f' ∧ AX f f') := by
  have z10 : ¬ (1 : Int32) = 0 := by decide
  obtain ⟨h2, h5, ⟨hp, p, p1, p2⟩, -⟩ := id h
  unfold OX5_readSlice OX10_readsSlice FX5_readSlice FX10_readsSlice
  rw [h4]
  by_cases c : f 36 = 0
  · obtain ⟨s1, s2, R1, f1, fl1, s3, s4, s5, s6, s7⟩ := p_next (Rm := upd R 4 1) (fm := upd f 36 1) hT hS h hk (pk_un (by decide)) (pk_un (by decide)) (pk_un (by decide)) (pk_un (by decide))
    have r9 : R1 9 = -1 := (s6 9 (by decide) (by decide) (by decide) (by decide)).trans ((pk_un (by decide)).trans h9)
    obtain ⟨n1, n2, n3⟩ := p_number 1 60 hT hS s5 r9
    rw [if_pos c, if_pos c, s3, s4]
    dsimp only
    rcases n3 with ⟨v, R', f', fl', e1, e2, e3, e4, e5, e6, -⟩ | ⟨R', f', e1, e2, e3, e4⟩
    · rw [e1, e2]
      dsimp only
      rw [if_neg z10, e6]
      refine ⟨⟨fun _ => ⟨s1, n1⟩, fun z => absurd c z⟩, ⟨fun _ => ⟨s2, n2⟩, fun z => absurd c z⟩, Or.inl ⟨v, R', _, fl', rfl, rfl, ?_, fun k a b c d => (e4 k a b c d).trans (s6 k a b c d), ?_⟩⟩
      · obtain ⟨t1, t2, ⟨t3, t4⟩, t5⟩ := e3
        refine ⟨t1, (pk_un (by decide)).trans t2, ⟨?_, ?_⟩, ?_⟩
        · rw [pk_un (by decide)]; exact t3
        · rw [pk_un (by decide)]; exact t4
        · rw [pk_un (by decide), pk_un (by decide), pk_un (by decide)]; exact t5
      · intro k a b c d g
        by_cases q : k = 31
        · subst q
          exact pk_us.trans pk_us.symm
        · exact (pk_un q).trans ((e5 k a b c d g).trans ((s7 k a b c d).trans (pk_un q).symm))
    · rw [e1, e2]
      dsimp only
      rw [if_pos rfl]
      exact ⟨⟨fun _ => ⟨s1, n1⟩, fun z => absurd c z⟩, ⟨fun _ => ⟨s2, n2⟩, fun z => absurd c z⟩, Or.inr ⟨R', _, f', fl1, rfl, rfl, e3, AX_t (AX_w (AX_F s7) (Or.inr (Or.inl rfl))) e4⟩⟩
  · have hf : f 8 = 2 := by
      rcases TK_2 h with ⟨-, a, -⟩ | ⟨a, -⟩
      · exact a
      · exact absurd hk a
    have rf := RF_k (R := R) (k := 2) hp p2 (by omega) (by decide)
    rw [if_neg c, if_neg c, fail_e h9, bad_e (k := 2) (by rw [hf]; decide)]
    exact ⟨⟨fun z => absurd z c, fun _ => trivial⟩, ⟨fun z => absurd z c, fun _ => Or.inl rfl⟩, Or.inr ⟨_, prg, _, fl, rfl, rfl, rf, AX_b⟩⟩
theorem AR_t {R R1 R2 : mF} (a : AR R R1) (b : AR R1 R2) : AR R R2 := fun k x y z u => (b k x y z u).trans (a k x y z u)
theorem AN_t {R R1 R2 : mF} (a : AN R R1) (b : AN R1 R2) : AN R R2 := fun k x y z u v => (b k x y z u v).trans (a k x y z u v)
theorem AN_F {R R1 : mF} (a : AF R R1) : AN R R1 := fun k x y z u _ => a k x y z u
theorem AR_9 {R R' : mF} (a : AR R R') (h : R 9 = -1) : R' 9 = -1 := (a 9 (by decide) (by decide) (by decide) (by decide)).trans h
theorem p_word (hT : TP tp tr) (hS : S ≤ 700) (h : TK S lo R f fl) (h9 : R 9 = -1) (hk : R 5 = 2) (hm : ∀ k, k < 192 → rmem k = mem k) : OX5_readWord tp R mem ∧ OX10_readsWord f fl tr rmem ∧ ((∃ (R' f' mem' rmem' : mF) (fl' : mFl), FX5_readWord tp R mem = (0, R', mem') ∧ FX10_readsWord f fl tr rmem = (1, f', fl', rmem') ∧ TK S lo R' f' fl' ∧ AR R R' ∧ AN f f' ∧ ∀ k, k < 192 → rmem' k = mem' k) ∨ ∃ (R' f' mem' rmem' : mF) (fl' : mFl), FX5_readWord tp R mem = (0, R', mem') ∧ FX10_readsWord f fl tr rmem = (0, f', fl', rmem') ∧ RF R' f' ∧ AX f f') := by
  have z10 : ¬ (1 : Int32) = 0 := by decide
  obtain ⟨s1, s2, R1, f1, fl1, s3, s4, s5, s6, s7⟩ := p_next (Rm := R) (fm := f) hT hS h hk rfl rfl rfl rfl
  have ow : ∀ (a c v : Int32), (∃ j, j ≤ 1 ∧ a = nI j) → (∃ j, j ≤ 95 ∧ c = nI j) → OX4_setWord a c v mem := by
    rintro _ _ v ⟨j, hj, rfl⟩ ⟨i, hi, rfl⟩
    unfold OX4_setWord
    rw [show nI j * 96 = nI (j * 96) from nI_mul j 96, nI_add]
    exact vp_in_nI (by omega) (by decide)
  have z0 : ∀ b, ∃ j, j ≤ b ∧ (0 : Int32) = nI j := fun b => ⟨0, Nat.zero_le _, rfl⟩
  have r1 := AR_9 s6 h9
  obtain ⟨n1, n2, n3⟩ := p_number 0 1 hT hS s5 r1
  unfold OX5_readWord OX10_readsWord FX5_readWord FX10_readsWord
  rw [s3, s4]
  dsimp only
  rcases n3 with ⟨a, R2, f2, fl2, a1, a2, a3, a4, a5, a6, a7, a8, -⟩ | ⟨R2, f2, a1, a2, a3, a4⟩
  · have r2 := AR_9 a4 r1
    obtain ⟨j, -, hj, ja⟩ := rng (a := 0) (b := 1) a7 a8 (by decide) (by decide)
    obtain ⟨m1, m2, m3⟩ := p_number 0 95 hT hS a3 r2
    rw [a1, a2]
    dsimp only
    rw [if_neg z10]
    rcases m3 with ⟨b, R3, f3, fl3, b1, b2, b3, b4, b5, b6, b7, b8, -⟩ | ⟨R3, f3, b1, b2, b3, b4⟩
    · have r3 := AR_9 b4 r2
      obtain ⟨i, -, hi, ib⟩ := rng (a := 0) (b := 95) b7 b8 (by decide) (by decide)
      obtain ⟨l1, l2, l3⟩ := p_number (-9999) 9999 hT hS b3 r3
      rw [b1, b2]
      dsimp only
      rw [if_neg z10]
      have oo := fun v => ow a b v ⟨j, hj, ja⟩ ⟨i, hi, ib⟩
      rcases l3 with ⟨v, R4, f4, fl4, c1, c2, c3, c4, c5, c6, -⟩ | ⟨R4, f4, c1, c2, c3, c4⟩
      · rw [c1, c2]
        dsimp only
        rw [if_neg z10, a6, b6, c6]
        have ev : (96 : Int32) * a + b = nI (96 * j + i) := by
          rw [ja, ib, show (96 : Int32) * nI j = nI (96 * j) from nI_mul 96 j, nI_add]
        have ew : a * 96 + b = nI (96 * j + i) := by
          rw [ja, ib, show nI j * 96 = nI (j * 96) from nI_mul j 96, nI_add, Nat.mul_comm]
        unfold FX4_setWord
        rw [ev, ew]
        refine ⟨⟨s1, n1, m1, l1, oo v⟩, ⟨s2, n2, fun z => absurd z z10, fun _ => ⟨m2, fun z => absurd z z10, fun _ => ⟨l2, fun z => absurd z z10, fun _ => vp_in_nI (by omega) (by decide)⟩⟩⟩, Or.inl ⟨R4, f4, _, _, fl4, rfl, rfl, c3, AR_t s6 (AR_t a4 (AR_t b4 c4)), AN_t (AN_F s7) (AN_t a5 (AN_t b5 c5)), fun k hk => ?_⟩⟩
        show upd rmem _ v k = upd mem _ v k
        rw [upd_at, upd_at]
        split
        · rfl
        · exact hm k hk
      · rw [c1, c2]
        exact ⟨⟨s1, n1, m1, l1, oo _⟩, ⟨s2, n2, fun z => absurd z z10, fun _ => ⟨m2, fun z => absurd z z10, fun _ => ⟨l2, fun _ => trivial, fun z => absurd rfl z⟩⟩⟩, Or.inr ⟨R4, f4, _, rmem, fl3, rfl, if_pos rfl, c3, AX_t (AX_F s7) (AX_t (AX_N a5) (AX_t (AX_N b5) c4))⟩⟩
    · obtain ⟨t1, t2⟩ := ft_number (R := R3) (tp := tp) (-9999) 9999 b3.1
      rw [b1, b2]
      dsimp only
      rw [t2]
      exact ⟨⟨s1, n1, m1, t1, ow _ _ _ ⟨j, hj, ja⟩ (z0 95)⟩, ⟨s2, n2, fun z => absurd z z10, fun _ => ⟨m2, fun _ => trivial, fun z => absurd rfl z⟩⟩, Or.inr ⟨R3, f3, _, rmem, fl2, rfl, if_pos rfl, b3, AX_t (AX_F s7) (AX_t (AX_N a5) b4)⟩⟩
  · obtain ⟨t1, t2⟩ := ft_number (R := R2) (tp := tp) (-9999) 9999 a3.1
    obtain ⟨t3, t4⟩ := ft_number (R := R2) (tp := tp) 0 95 a3.1
    rw [a1, a2]
    dsimp only
    rw [t4]
    dsimp only
    rw [t2]
    exact ⟨⟨s1, n1, t3, t1, ow _ _ _ (z0 1) (z0 95)⟩, ⟨s2, n2, fun _ => trivial, fun z => absurd rfl z⟩, Or.inr ⟨R2, f2, _, rmem, fl1, rfl, if_pos rfl, a3, AX_t (AX_F s7) a4⟩⟩
end LSW
