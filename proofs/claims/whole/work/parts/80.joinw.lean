/-! PURE: a line that tells a join, whole (GENERATED, wip/gen/p/80.py) -/
section LJW
variable {R f tp tr prg snd slk rcv rlk rj : mF} {fl : mFl} {S lo J : Nat}
theorem JS_o {side j : Nat} {v : Int32} {g : Nat → Nat} (h : JS J side snd slk rj g) (hj : ∀ k, k < J → 2 * k + side ≠ j) : JS J side snd slk (upd rj j v) g := ⟨fun k hk => by
  obtain ⟨s, i, h1, h2, h3, h4, h5, h6⟩ := h.1 k hk
  exact ⟨s, i, h1, h2, h3, h4, h5, (pk_un (hj k hk)).trans h6⟩, h.2⟩
theorem JS_s {side a c : Nat} {g : Nat → Nat} (h : JS J side snd slk rj g) (ha : a < 2) (hc : c < 2) (hn : ∀ k, k < J → g k ≠ 2 * a + c) : JS (J + 1) side (upd snd J (nI a)) (upd slk J (nI c)) (upd rj (2 * J + side) (nI (2 * a + c))) (fun k => if k = J then 2 * a + c else g k) := by
  refine ⟨fun k hk => ?_, fun k k' hk hk' ne => ?_⟩
  · by_cases e : k = J
    · subst e
      exact ⟨a, c, ha, hc, pk_us, pk_us, if_pos rfl, pk_us.trans (congrArg nI (if_pos rfl).symm)⟩
    · obtain ⟨s, i, h1, h2, h3, h4, h5, h6⟩ := h.1 k (by omega)
      exact ⟨s, i, h1, h2, (pk_un e).trans h3, (pk_un e).trans h4, (if_neg e).trans h5, (pk_un (by omega)).trans (h6.trans (congrArg nI (if_neg e).symm))⟩
  · show (if k = J then 2 * a + c else g k) ≠ (if k' = J then 2 * a + c else g k')
    by_cases e : k = J
    · rw [if_pos e, if_neg (show ¬ k' = J by omega)]
      exact (hn k' (by omega)).symm
    · rw [if_neg e]
      by_cases e' : k' = J
      · rw [if_pos e']
        exact hn k (by omega)
      · rw [if_neg e']
        exact h.2 k k' (by omega) (by omega) ne
theorem o_srch {rc : Bool} {y1 y2 : Int32} (h7 : prg 7 = nI J) (hJ : J ≤ 4) : ∀ (m i fuel : Nat), i + m = J → m < fuel → OS rc fuel y1 y2 (nI i) prg snd slk
  | _, _, 0, _, h => absurd h (Nat.not_lt_zero _)
  | 0, i, fuel + 1, h, _ => by
    have c2 : prg 7 ≤ nI i := by rw [h7]; exact nI_le (by omega) (by omega)
    exact OS_s ⟨fun _ => trivial, fun z => absurd c2 z⟩
  | m + 1, i, fuel + 1, h, _ => by
    have vi : vp_in (nI i) 4 := vp_in_nI (by omega) (by decide)
    have ih := o_srch (rc := rc) (y1 := y1) (y2 := y2) h7 hJ m (i + 1) fuel (by omega) (by omega)
    rw [← nI_1] at ih
    exact OS_s ⟨fun _ => trivial, fun _ => ⟨vi, fun _ => ⟨vi, fun _ => trivial, fun _ => ih⟩, fun _ => ih⟩⟩
theorem FS_t {n : Nat} {x y z : Int32} : FS true n x y z prg snd slk = FX4_isReceiving_b1 n x y z prg snd slk := by
  unfold FS
  exact if_pos rfl
theorem FS_f {n : Nat} {x y z : Int32} : FS false n x y z prg snd slk = FX4_isSending_b1 n x y z prg snd slk := by
  unfold FS
  exact if_neg Bool.false_ne_true
theorem OS_t {n : Nat} {x y z : Int32} : OS true n x y z prg snd slk = OX4_isReceiving_b1 n x y z prg snd slk := by
  unfold OS
  exact if_pos rfl
theorem OS_f {n : Nat} {x y z : Int32} : OS false n x y z prg snd slk = OX4_isSending_b1 n x y z prg snd slk := by
  unfold OS
  exact if_neg Bool.false_ne_true
theorem rc_e {x y : Int32} : FX4_isReceiving x y prg snd slk = FS true 10000 x y 0 prg snd slk := by
  unfold FX4_isReceiving
  exact FS_t.symm
theorem sd_e {x y : Int32} : FX4_isSending x y prg snd slk = FS false 10000 x y 0 prg snd slk := by
  unfold FX4_isSending
  exact FS_f.symm
theorem orc_e {x y : Int32} : OX4_isReceiving x y prg snd slk = OS true 10000 x y 0 prg snd slk := by
  unfold OX4_isReceiving
  exact OS_t.symm
theorem osd_e {x y : Int32} : OX4_isSending x y prg snd slk = OS false 10000 x y 0 prg snd slk := by
  unfold OX4_isSending
  exact OS_f.symm
theorem o_snd {x y : Int32} (h7 : prg 7 = nI J) (hJ : J ≤ 4) : OX4_isSending x y prg snd slk := by
  have h := o_srch (rc := false) (y1 := x) (y2 := y) (snd := snd) (slk := slk) h7 hJ J 0 10000 (by omega) (by omega)
  rw [nI_0] at h
  rw [osd_e]
  exact h
theorem o_rcv {x y : Int32} (h7 : prg 7 = nI J) (hJ : J ≤ 4) : OX4_isReceiving x y prg snd slk := by
  have h := o_srch (rc := true) (y1 := x) (y2 := y) (snd := snd) (slk := slk) h7 hJ J 0 10000 (by omega) (by omega)
  rw [nI_0] at h
  rw [orc_e]
  exact h
theorem o_addj {x1 x2 x3 x4 : Int32} (h7 : prg 7 = nI J) (hJ : J ≤ 4) : OX4_addJoin x1 x2 x3 x4 prg snd slk rcv rlk := by
  unfold OX4_addJoin
  rw [h7]
  refine ⟨fun _ => trivial, fun z => ?_⟩
  have : J ≤ 3 := by
    rcases Nat.lt_or_ge 3 J with q | q
    · exact absurd (nI_le (show 4 ≤ J by omega) (by omega)) z
    · exact q
  have vi : vp_in (nI J) 4 := vp_in_nI (by omega) (by decide)
  exact ⟨vi, vi, vi, vi⟩
theorem f_addj {x1 x2 x3 x4 : Int32} (h7 : prg 7 = nI J) (hJ : J ≤ 3) : FX4_addJoin x1 x2 x3 x4 prg snd slk rcv rlk = (0, upd prg 7 (nI (J + 1)), upd snd J x1, upd slk J x2, upd rcv J x3, upd rlk J x4) := by
  have c : ¬ (4 : Int32) ≤ nI J := nI_ge (show J < 4 by omega) (by decide)
  unfold FX4_addJoin
  rw [h7, if_neg c, nI_clamp (by omega), nI_1]
def jT (x y : Int32) (tp R prg snd slk rcv rlk : mF) : Int32 × mF × mF × mF × mF × mF × mF :=
  let u10 := FX5_takeNumber 0 1 tp R
  let u12 := FX5_takeNumber 0 1 tp u10.2
  let u14 := FX4_isReceiving u10.1 u12.1 prg rcv rlk
  if u14 = 0 then (let u17 := FX4_addJoin x y u10.1 u12.1 prg snd slk rcv rlk; (0, u12.2, u17.2.1, u17.2.2.1, u17.2.2.2.1, u17.2.2.2.2.1, u17.2.2.2.2.2)) else (let u20 := FX5_fail (u10.2 6) 2 u12.2; let u21 := FX4_addJoin x y u10.1 u12.1 prg snd slk rcv rlk; (0, u20.2, u21.2.1, u21.2.2.1, u21.2.2.2.1, u21.2.2.2.2.1, u21.2.2.2.2.2))
def OjT (x y : Int32) (tp R prg snd slk rcv rlk : mF) : Prop :=
  OX5_takeNumber 0 1 tp R ∧ (let u10 := FX5_takeNumber 0 1 tp R; OX5_takeNumber 0 1 tp u10.2 ∧ (let u12 := FX5_takeNumber 0 1 tp u10.2; OX4_isReceiving u10.1 u12.1 prg rcv rlk ∧ (let u14 := FX4_isReceiving u10.1 u12.1 prg rcv rlk; (u14 = 0 → (OX4_addJoin x y u10.1 u12.1 prg snd slk rcv rlk)) ∧ (¬ (u14 = 0) → ((let u20 := FX5_fail (u10.2 6) 2 u12.2; OX4_addJoin x y u10.1 u12.1 prg snd slk rcv rlk))))))
def rT (f : mF) (fl : mFl) (tr rj : mF) : Int32 × mF × mFl × mF :=
  let u9 := FX10_reads 0 1 f fl tr
  if u9.1 = 0 then ((0, u9.2.1, u9.2.2, rj)) else (let u12 := FX10_readsLink (u9.2.1 37) 1 u9.2.1 u9.2.2 tr rj; if u12.1 = 0 then ((0, u12.2.1, u12.2.2.1, u12.2.2.2)) else ((1, (upd u12.2.1 30 ((u12.2.1 30) + 1)), u12.2.2.1, u12.2.2.2)))
def OrT (f : mF) (fl : mFl) (tr rj : mF) : Prop :=
  OX10_reads 0 1 f fl tr ∧ (let u9 := FX10_reads 0 1 f fl tr; (u9.1 = 0 → True) ∧ (¬ (u9.1 = 0) → (OX10_readsLink (u9.2.1 37) 1 u9.2.1 u9.2.2 tr rj)))
theorem ft_jT {x y : Int32} (h9 : ¬ R 9 = -1) (h7 : prg 7 = nI J) (hJ : J ≤ 4) : OjT x y tp R prg snd slk rcv rlk ∧ (jT x y tp R prg snd slk rcv rlk).2.1 = R := by
  obtain ⟨t1, t2⟩ := ft_number (R := R) (tp := tp) 0 1 h9
  unfold OjT jT
  rw [t2]
  dsimp only
  rw [t2, fail_f h9]
  refine ⟨⟨t1, t1, o_rcv h7 hJ, fun _ => o_addj h7 hJ, fun _ => o_addj h7 hJ⟩, ?_⟩
  dsimp only
  split <;> rfl
theorem p_jT {a0 c0 : Nat} {g : Nat → Nat} (hT : TP tp tr) (hS : S ≤ 700) (h : TK S lo R f fl) (h9 : R 9 = -1) (h30 : f 30 = nI J) (h7 : prg 7 = nI J) (hJ : J ≤ 3) (hj : JS J 1 rcv rlk rj g) : OjT (nI a0) (nI c0) tp R prg snd slk rcv rlk ∧ OrT f fl tr rj ∧ ((∃ (b c : Nat) (R' f' : mF) (fl' : mFl), b < 2 ∧ c < 2 ∧ jT (nI a0) (nI c0) tp R prg snd slk rcv rlk = (0, R', upd prg 7 (nI (J + 1)), upd snd J (nI a0), upd slk J (nI c0), upd rcv J (nI b), upd rlk J (nI c)) ∧ rT f fl tr rj = (1, f', fl', upd rj (2 * J + 1) (nI (2 * b + c))) ∧ TK S lo R' f' fl' ∧ AR R R' ∧ AN (upd f 30 (nI (J + 1))) f' ∧ ∀ k, k < J → g k ≠ 2 * b + c) ∨ ∃ (f' rj' : mF) (fl' : mFl), rT f fl tr rj = (0, f', fl', rj') ∧ RF (jT (nI a0) (nI c0) tp R prg snd slk rcv rlk).2.1 f' ∧ AX f f') := by
  have z10 : ¬ (1 : Int32) = 0 := by decide
  obtain ⟨n1, n2, n3⟩ := p_number 0 1 hT hS h h9
  rcases n3 with ⟨v, R1, f1, fl1, a1, a2, a3, a4, a5, a6, a7, a8, -⟩ | ⟨R1, f1, a1, a2, a3, a4⟩
  · obtain ⟨b, -, hb, rfl⟩ := rng (a := 0) (b := 1) a7 a8 (by decide) (by decide)
    have r9 := AR_9 a4 h9
    have e30 : f1 30 = nI J := (a5 30 (by decide) (by decide) (by decide) (by decide) (by decide)).trans h30
    obtain ⟨m1, m2, m3⟩ := p_link (rc := true) (side := 1) (a := b) hT hS a3 r9 e30 h7 (show J ≤ 4 by omega) (by decide) (by omega) hj
    have eo : OrT f fl tr rj := by
      unfold OrT
      rw [a2]
      dsimp only
      rw [a6]
      exact ⟨n2, fun z => absurd z z10, fun _ => m2⟩
    rcases m3 with ⟨c, R2, f2, fl2, hc, b1, b2, b3, b4, b5, b6, b7, b8, b9⟩ | ⟨c, R2, f2, fl2, hc, b1, b2, b3, b4, b5, b6, b7⟩ | ⟨R2, f2, fl2, b1, b2, b3, b4⟩
    · have e3 : FX4_isReceiving (nI b) (nI c) prg rcv rlk = 0 := rc_e.trans b3
      have b4' : FX10_readsLink (f1 37) 1 f1 fl1 tr rj = (1, f2, fl2, upd rj (2 * J + 1) (nI (2 * b + c))) := by
        rw [a6]
        exact b4
      have g30 : f2 30 = nI J := (b7 30 (by decide) (by decide) (by decide) (by decide) (by decide)).trans e30
      have er : rT f fl tr rj = (1, upd f2 30 (nI (J + 1)), fl2, upd rj (2 * J + 1) (nI (2 * b + c))) := by
        unfold rT
        rw [a2]
        dsimp only
        refine (if_neg z10).trans ?_
        rw [b4']
        refine (if_neg z10).trans ?_
        dsimp only
        rw [g30, nI_1]
      have oj : OjT (nI a0) (nI c0) tp R prg snd slk rcv rlk := by
        unfold OjT
        rw [a1]
        dsimp only
        rw [b1]
        exact ⟨n1, m1, by rw [orc_e]; exact b2, fun _ => o_addj h7 (by omega), fun z => absurd e3 z⟩
      have ej : jT (nI a0) (nI c0) tp R prg snd slk rcv rlk = (0, R2, upd prg 7 (nI (J + 1)), upd snd J (nI a0), upd slk J (nI c0), upd rcv J (nI b), upd rlk J (nI c)) := by
        unfold jT
        rw [a1]
        dsimp only
        rw [b1]
        dsimp only
        rw [if_pos e3, f_addj h7 (by omega)]
      refine ⟨oj, eo, Or.inl ⟨b, c, R2, _, fl2, by omega, hc, ej, er, ?_, AR_t a4 b6, ?_, b9⟩⟩
      · obtain ⟨t1, t2, ⟨t3, t4⟩, t5⟩ := b5
        refine ⟨t1, (pk_un (by decide)).trans t2, ⟨?_, ?_⟩, ?_⟩
        · rw [pk_un (by decide)]; exact t3
        · rw [pk_un (by decide)]; exact t4
        · rw [pk_un (by decide), pk_un (by decide), pk_un (by decide)]; exact t5
      · intro k x1 x2 x3 x4 x5
        by_cases q : k = 30
        · subst q
          exact pk_us.trans pk_us.symm
        · exact (pk_un q).trans ((b7 k x1 x2 x3 x4 x5).trans ((a5 k x1 x2 x3 x4 x5).trans (pk_un q).symm))
    · have e3 : ¬ FX4_isReceiving (nI b) (nI c) prg rcv rlk = 0 := fun z => b3 (rc_e.symm.trans z)
      have b4' : FX10_readsLink (f1 37) 1 f1 fl1 tr rj = (0, f2, fl2, rj) := by
        rw [a6]
        exact b4
      have er : rT f fl tr rj = (0, f2, fl2, rj) := by
        unfold rT
        rw [a2]
        dsimp only
        refine (if_neg z10).trans ?_
        rw [b4']
        exact if_pos rfl
      have oj : OjT (nI a0) (nI c0) tp R prg snd slk rcv rlk := by
        unfold OjT
        rw [a1]
        dsimp only
        rw [b1]
        exact ⟨n1, m1, by rw [orc_e]; exact b2, fun z => absurd z e3, fun _ => o_addj h7 (by omega)⟩
      have ej : (jT (nI a0) (nI c0) tp R prg snd slk rcv rlk).2.1 = upd R2 9 (8 * R1 6 + 2) := by
        unfold jT
        rw [a1]
        dsimp only
        rw [b1]
        dsimp only
        rw [if_neg e3, fail_e b5]
      exact ⟨oj, eo, Or.inr ⟨f2, rj, fl2, er, by rw [ej]; exact b6, AX_t (AX_N a5) b7⟩⟩
    · have b2' : FX10_readsLink (f1 37) 1 f1 fl1 tr rj = (0, f2, fl2, rj) := by
        rw [a6]
        exact b2
      have er : rT f fl tr rj = (0, f2, fl2, rj) := by
        unfold rT
        rw [a2]
        dsimp only
        refine (if_neg z10).trans ?_
        rw [b2']
        exact if_pos rfl
      have oj : OjT (nI a0) (nI c0) tp R prg snd slk rcv rlk := by
        unfold OjT
        rw [a1]
        dsimp only
        rw [b1]
        exact ⟨n1, m1, o_rcv h7 (by omega), fun _ => o_addj h7 (by omega), fun _ => o_addj h7 (by omega)⟩
      have ej : (jT (nI a0) (nI c0) tp R prg snd slk rcv rlk).2.1 = R2 := by
        unfold jT
        rw [a1]
        dsimp only
        rw [b1]
        dsimp only
        rw [fail_f b3.1]
        split <;> rfl
      exact ⟨oj, eo, Or.inr ⟨f2, rj, fl2, er, by rw [ej]; exact b3, AX_t (AX_N a5) b4⟩⟩
  · obtain ⟨t1, t2⟩ := ft_number (R := R1) (tp := tp) 0 1 a3.1
    have er : rT f fl tr rj = (0, f1, fl, rj) := by
      unfold rT
      rw [a2]
      exact if_pos rfl
    have eo : OrT f fl tr rj := by
      unfold OrT
      rw [a2]
      exact ⟨n2, fun _ => trivial, fun z => absurd rfl z⟩
    have oj : OjT (nI a0) (nI c0) tp R prg snd slk rcv rlk := by
      unfold OjT
      rw [a1]
      dsimp only
      rw [t2]
      exact ⟨n1, t1, o_rcv h7 (by omega), fun _ => o_addj h7 (by omega), fun _ => o_addj h7 (by omega)⟩
    have ej : (jT (nI a0) (nI c0) tp R prg snd slk rcv rlk).2.1 = R1 := by
      unfold jT
      rw [a1]
      dsimp only
      rw [t2]
      dsimp only
      rw [fail_f a3.1]
      split <;> rfl
    exact ⟨oj, eo, Or.inr ⟨f1, rj, fl, er, by rw [ej]; exact a3, a4⟩⟩
theorem rj_F : FX5_readJoin tp R prg snd slk rcv rlk = (let u1 := FX5_scan tp R; let u3 := FX5_takeNumber 0 1 tp u1.2; let u5 := FX5_takeNumber 0 1 tp u3.2; if FX4_isSending u3.1 u5.1 prg snd slk = 0 then jT u3.1 u5.1 tp u5.2 prg snd slk rcv rlk else jT u3.1 u5.1 tp (FX5_fail (u3.2 6) 2 u5.2).2 prg snd slk rcv rlk) := rfl
theorem rj_O : OX5_readJoin tp R prg snd slk rcv rlk = (OX5_scan tp R ∧ (let u1 := FX5_scan tp R; OX5_takeNumber 0 1 tp u1.2 ∧ (let u3 := FX5_takeNumber 0 1 tp u1.2; OX5_takeNumber 0 1 tp u3.2 ∧ (let u5 := FX5_takeNumber 0 1 tp u3.2; OX4_isSending u3.1 u5.1 prg snd slk ∧ (FX4_isSending u3.1 u5.1 prg snd slk = 0 → OjT u3.1 u5.1 tp u5.2 prg snd slk rcv rlk) ∧ (¬ FX4_isSending u3.1 u5.1 prg snd slk = 0 → OjT u3.1 u5.1 tp (FX5_fail (u3.2 6) 2 u5.2).2 prg snd slk rcv rlk))))) := rfl
theorem rr_F : FX10_readsJoin f fl tr rj = (let u1 := FX10_go f fl tr; let u3 := FX10_reads 0 1 u1.2.1 u1.2.2 tr; if u3.1 = 0 then ((0, u3.2.1, u3.2.2, rj)) else (let u6 := FX10_readsLink (u3.2.1 37) 0 u3.2.1 u3.2.2 tr rj; if u6.1 = 0 then ((0, u6.2.1, u6.2.2.1, u6.2.2.2)) else rT u6.2.1 u6.2.2.1 tr u6.2.2.2)) := rfl
theorem rr_O : OX10_readsJoin f fl tr rj = (OX10_go f fl tr ∧ (let u1 := FX10_go f fl tr; OX10_reads 0 1 u1.2.1 u1.2.2 tr ∧ (let u3 := FX10_reads 0 1 u1.2.1 u1.2.2 tr; (u3.1 = 0 → True) ∧ (¬ (u3.1 = 0) → (OX10_readsLink (u3.2.1 37) 0 u3.2.1 u3.2.2 tr rj ∧ (let u6 := FX10_readsLink (u3.2.1 37) 0 u3.2.1 u3.2.2 tr rj; (u6.1 = 0 → True) ∧ (¬ (u6.1 = 0) → OrT u6.2.1 u6.2.2.1 tr u6.2.2.2))))))) := rfl
theorem p_join {g0 g1 : Nat → Nat} (hT : TP tp tr) (hS : S ≤ 700) (h : TK S lo R f fl) (h9 : R 9 = -1) (hk : R 5 = 2) (h30 : f 30 = nI J) (h7 : prg 7 = nI J) (hJ : J ≤ 4) (j0 : JS J 0 snd slk rj g0) (j1 : JS J 1 rcv rlk rj g1) : OX5_readJoin tp R prg snd slk rcv rlk ∧ OX10_readsJoin f fl tr rj ∧ ((∃ (R' f' s' l' r' q' rj' : mF) (fl' : mFl) (g0' g1' : Nat → Nat), FX5_readJoin tp R prg snd slk rcv rlk = (0, R', upd prg 7 (nI (J + 1)), s', l', r', q') ∧ FX10_readsJoin f fl tr rj = (1, f', fl', rj') ∧ TK S lo R' f' fl' ∧ AR R R' ∧ AN (upd f 30 (nI (J + 1))) f' ∧ J ≤ 3 ∧ JS (J + 1) 0 s' l' rj' g0' ∧ JS (J + 1) 1 r' q' rj' g1') ∨ ∃ (f' rj' : mF) (fl' : mFl), FX10_readsJoin f fl tr rj = (0, f', fl', rj') ∧ RF (FX5_readJoin tp R prg snd slk rcv rlk).2.1 f' ∧ AX f f') := by
  have z10 : ¬ (1 : Int32) = 0 := by decide
  obtain ⟨s1, s2, R1, f1, fl1, s3, s4, s5, s6, s7⟩ := p_next (Rm := R) (fm := f) hT hS h hk rfl rfl rfl rfl
  have r1 := AR_9 s6 h9
  obtain ⟨n1, n2, n3⟩ := p_number 0 1 hT hS s5 r1
  rcases n3 with ⟨v, R2, f2, fl2, a1, a2, a3, a4, a5, a6, a7, a8, -⟩ | ⟨R2, f2, a1, a2, a3, a4⟩
  · obtain ⟨a, -, ha, rfl⟩ := rng (a := 0) (b := 1) a7 a8 (by decide) (by decide)
    have r2 := AR_9 a4 r1
    have e30 : f2 30 = nI J := (a5 30 (by decide) (by decide) (by decide) (by decide) (by decide)).trans ((s7 30 (by decide) (by decide) (by decide) (by decide)).trans h30)
    obtain ⟨m1, m2, m3⟩ := p_link (rc := false) (side := 0) (a := a) hT hS a3 r2 e30 h7 hJ (by decide) (by omega) j0
    rcases m3 with ⟨c, R3, f3, fl3, hc, b1, b2, b3, b4, b5, b6, b7, b8, b9⟩ | ⟨c, R3, f3, fl3, hc, b1, b2, b3, b4, b5, b6, b7⟩ | ⟨R3, f3, fl3, b1, b2, b3, b4⟩
    · have e3 : FX4_isSending (nI a) (nI c) prg snd slk = 0 := sd_e.trans b3
      have b4' : FX10_readsLink (f2 37) 0 f2 fl2 tr rj = (1, f3, fl3, upd rj (2 * J + 0) (nI (2 * a + c))) := by
        rw [a6]
        exact b4
      have r3 := AR_9 b6 r2
      have g30 : f3 30 = nI J := (b7 30 (by decide) (by decide) (by decide) (by decide) (by decide)).trans e30
      obtain ⟨p1, p2, p3⟩ := p_jT (a0 := a) (c0 := c) (snd := snd) (slk := slk) hT hS b5 r3 g30 h7 b8 (JS_o (j := 2 * J + 0) (v := nI (2 * a + c)) j1 (fun k hk => by omega))
      have k0 := JS_s j0 (show a < 2 by omega) hc b9
      have oj : OX5_readJoin tp R prg snd slk rcv rlk := by
        rw [rj_O, s3]
        dsimp only
        rw [a1]
        dsimp only
        rw [b1]
        exact ⟨s1, n1, m1, by rw [osd_e]; exact b2, fun _ => p1, fun z => absurd e3 z⟩
      have ej : FX5_readJoin tp R prg snd slk rcv rlk = jT (nI a) (nI c) tp R3 prg snd slk rcv rlk := by
        rw [rj_F, s3]
        dsimp only
        rw [a1]
        dsimp only
        rw [b1]
        exact if_pos e3
      have eo : OX10_readsJoin f fl tr rj := by
        rw [rr_O, s4]
        dsimp only
        rw [a2]
        dsimp only
        rw [b4', a6]
        exact ⟨s2, n2, fun z => absurd z z10, fun _ => ⟨m2, fun z => absurd z z10, fun _ => p2⟩⟩
      have er : FX10_readsJoin f fl tr rj = rT f3 fl3 tr (upd rj (2 * J + 0) (nI (2 * a + c))) := by
        rw [rr_F, s4]
        dsimp only
        rw [a2]
        dsimp only
        refine (if_neg z10).trans ?_
        rw [b4']
        exact if_neg z10
      refine ⟨oj, eo, ?_⟩
      rw [ej, er]
      rcases p3 with ⟨b, d, R4, f4, fl4, hb, hd, c1, c2, c3, c4, c5, c6⟩ | ⟨f4, rj4, fl4, c1, c2, c3⟩
      · refine Or.inl ⟨R4, f4, _, _, _, _, _, fl4, _, _, c1, c2, c3, AR_t s6 (AR_t a4 (AR_t b6 c4)), ?_, b8, JS_o k0 (fun k hk => by omega), JS_s (JS_o (j := 2 * J + 0) (v := nI (2 * a + c)) j1 (fun k hk => by omega)) hb hd c6⟩
        intro k x1 x2 x3 x4 x5
        by_cases q : k = 30
        · subst q
          exact (c5 30 x1 x2 x3 x4 x5).trans (pk_us.trans pk_us.symm)
        · exact (c5 k x1 x2 x3 x4 x5).trans ((pk_un q).trans ((b7 k x1 x2 x3 x4 x5).trans ((a5 k x1 x2 x3 x4 x5).trans ((s7 k x1 x2 x3 x4).trans (pk_un q).symm))))
      · exact Or.inr ⟨f4, rj4, fl4, c1, c2, AX_t (AX_F s7) (AX_t (AX_N a5) (AX_t (AX_N b7) c3))⟩
    · have e3 : ¬ FX4_isSending (nI a) (nI c) prg snd slk = 0 := fun z => b3 (sd_e.symm.trans z)
      have b4' : FX10_readsLink (f2 37) 0 f2 fl2 tr rj = (0, f3, fl3, rj) := by
        rw [a6]
        exact b4
      obtain ⟨t1, t2⟩ := ft_jT (R := upd R3 9 (8 * R2 6 + 2)) (tp := tp) (snd := snd) (slk := slk) (rcv := rcv) (rlk := rlk) (x := nI a) (y := nI c) b6.1 h7 hJ
      have oj : OX5_readJoin tp R prg snd slk rcv rlk := by
        rw [rj_O, s3]
        dsimp only
        rw [a1]
        dsimp only
        rw [b1]
        dsimp only
        rw [fail_e b5]
        exact ⟨s1, n1, m1, by rw [osd_e]; exact b2, fun z => absurd z e3, fun _ => t1⟩
      have ej : FX5_readJoin tp R prg snd slk rcv rlk = jT (nI a) (nI c) tp (upd R3 9 (8 * R2 6 + 2)) prg snd slk rcv rlk := by
        rw [rj_F, s3]
        dsimp only
        rw [a1]
        dsimp only
        rw [b1]
        dsimp only
        rw [fail_e b5]
        exact if_neg e3
      have eo : OX10_readsJoin f fl tr rj := by
        rw [rr_O, s4]
        dsimp only
        rw [a2]
        dsimp only
        rw [b4', a6]
        exact ⟨s2, n2, fun z => absurd z z10, fun _ => ⟨m2, fun _ => trivial, fun z => absurd rfl z⟩⟩
      have er : FX10_readsJoin f fl tr rj = (0, f3, fl3, rj) := by
        rw [rr_F, s4]
        dsimp only
        rw [a2]
        dsimp only
        refine (if_neg z10).trans ?_
        rw [b4']
        exact if_pos rfl
      exact ⟨oj, eo, Or.inr ⟨f3, rj, fl3, er, by rw [ej, t2]; exact b6, AX_t (AX_F s7) (AX_t (AX_N a5) b7)⟩⟩
    · have b2' : FX10_readsLink (f2 37) 0 f2 fl2 tr rj = (0, f3, fl3, rj) := by
        rw [a6]
        exact b2
      obtain ⟨t1, t2⟩ := ft_jT (R := R3) (tp := tp) (snd := snd) (slk := slk) (rcv := rcv) (rlk := rlk) (x := nI a) (y := 0) b3.1 h7 hJ
      have oj : OX5_readJoin tp R prg snd slk rcv rlk := by
        rw [rj_O, s3]
        dsimp only
        rw [a1]
        dsimp only
        rw [b1]
        dsimp only
        rw [fail_f b3.1]
        exact ⟨s1, n1, m1, o_snd h7 hJ, fun _ => t1, fun _ => t1⟩
      have ej : (FX5_readJoin tp R prg snd slk rcv rlk).2.1 = R3 := by
        rw [rj_F, s3]
        dsimp only
        rw [a1]
        dsimp only
        rw [b1]
        dsimp only
        rw [fail_f b3.1]
        split <;> exact t2
      have eo : OX10_readsJoin f fl tr rj := by
        rw [rr_O, s4]
        dsimp only
        rw [a2]
        dsimp only
        rw [b2', a6]
        exact ⟨s2, n2, fun z => absurd z z10, fun _ => ⟨m2, fun _ => trivial, fun z => absurd rfl z⟩⟩
      have er : FX10_readsJoin f fl tr rj = (0, f3, fl3, rj) := by
        rw [rr_F, s4]
        dsimp only
        rw [a2]
        dsimp only
        refine (if_neg z10).trans ?_
        rw [b2']
        exact if_pos rfl
      exact ⟨oj, eo, Or.inr ⟨f3, rj, fl3, er, by rw [ej]; exact b3, AX_t (AX_F s7) (AX_t (AX_N a5) b4)⟩⟩
  · obtain ⟨u1, u2⟩ := ft_number (R := R2) (tp := tp) 0 1 a3.1
    obtain ⟨t1, t2⟩ := ft_jT (R := R2) (tp := tp) (snd := snd) (slk := slk) (rcv := rcv) (rlk := rlk) (x := 0) (y := 0) a3.1 h7 hJ
    have oj : OX5_readJoin tp R prg snd slk rcv rlk := by
      rw [rj_O, s3]
      dsimp only
      rw [a1]
      dsimp only
      rw [u2]
      dsimp only
      rw [fail_f a3.1]
      exact ⟨s1, n1, u1, o_snd h7 hJ, fun _ => t1, fun _ => t1⟩
    have ej : (FX5_readJoin tp R prg snd slk rcv rlk).2.1 = R2 := by
      rw [rj_F, s3]
      dsimp only
      rw [a1]
      dsimp only
      rw [u2]
      dsimp only
      rw [fail_f a3.1]
      split <;> exact t2
    have eo : OX10_readsJoin f fl tr rj := by
      rw [rr_O, s4]
      dsimp only
      rw [a2]
      exact ⟨s2, n2, fun _ => trivial, fun z => absurd rfl z⟩
    have er : FX10_readsJoin f fl tr rj = (0, f2, fl1, rj) := by
      rw [rr_F, s4]
      dsimp only
      rw [a2]
      exact if_pos rfl
    exact ⟨oj, eo, Or.inr ⟨f2, rj, fl1, er, by rw [ej]; exact a3, AX_t (AX_F s7) a4⟩⟩
end LJW
