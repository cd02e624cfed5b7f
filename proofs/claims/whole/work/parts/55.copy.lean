/-! PURE: copies of a world, of the row (GENERATED, wip/gen/p/55.py) -/
theorem nI_mul (a b : Nat) : nI a * nI b = nI (a * b) := (Int32.ofNat_mul a b).symm
def eqr (a b : mF) (N : Nat) : Prop := ∀ k, k < N → a k = b k
theorem eqr_cpy {f g : mF} {N : Nat} : eqr (va_cpy f g 0 0 N) f N := fun k hk => by
  unfold va_cpy
  rw [if_pos (by omega)]
  exact congrArg f (by omega)
theorem RLk_q {l l' g : mF} {o : Nat} (h : RLk l o g) (e : eqr l' l 10) : RLk l' o g := by
  unfold RLk
  rw [e 0 (by decide), e 1 (by decide), e 2 (by decide), e 3 (by decide), e 4 (by decide), e 5 (by decide), e 6 (by decide), e 7 (by decide), e 8 (by decide), e 9 (by decide)]
  exact h
theorem RT_q {tz tp tt tb tz' tp' tt' tb' g : mF} (h : RT tz tp tt tb g) (e0 : tz' 0 = tz 0) (e1 : eqr tp' tp 12) (e2 : eqr tt' tt 12) (e3 : eqr tb' tb 12) : RT tz' tp' tt' tb' g := by
  obtain ⟨s, h1, h2, h3, h4, h5, h6⟩ := h
  refine ⟨s, h1, e0.trans h2, h3, fun k hk => ?_, fun k hk => ?_, fun i j hij hj => ?_⟩
  · rw [e1 k (by omega), e2 k (by omega), e3 k (by omega)]
    exact h4 k hk
  · rw [e3 k hk]
    exact h5 k hk
  · rw [e1 i (by omega), e1 j (by omega)]
    exact h6 i j hij hj
theorem RM_q {reg mem tz tp tt tb l0 l1 reg' mem' tz' tp' tt' tb' l0' l1' g : mF} (h : RM reg mem tz tp tt tb l0 l1 g) (er : eqr reg' reg 20) (em : eqr mem' mem 96) (e0 : tz' 0 = tz 0) (e1 : eqr tp' tp 12) (e2 : eqr tt' tt 12) (e3 : eqr tb' tb 12) (e4 : eqr l0' l0 10) (e5 : eqr l1' l1 10) : RM reg' mem' tz' tp' tt' tb' l0' l1' g := by
  obtain ⟨h1, h2, h3, h4, h5, h6, h7, h8⟩ := h
  exact ⟨RRun_c h1 (fun k hk => er k (by omega)) (fun _ _ _ => rfl), fun k hk => (h2 k hk).trans (em k hk).symm, RQ_c h3 (fun k a b => er k (by omega)) (fun _ _ _ => rfl), RRest_c h4 (fun k a b => er k (by omega)) (fun _ _ _ => rfl), RClk_c h5 (fun k a b => er k (by omega)) (fun _ _ _ => rfl), RT_q h6 e0 e1 e2 e3, RLk_q h7 e4, RLk_q h8 e5⟩
theorem RD_n {dia mt n n' : mF} {T : Nat} (h : RD dia mt n T) (hn : ∀ k, 349 ≤ k → k < 532 → n' k = n k) : RD dia mt n' T := by
  obtain ⟨h1, h2, c, h3, h4, h5, h6⟩ := h
  exact ⟨(hn _ (by decide) (by decide)).trans h1, (hn _ (by decide) (by decide)).trans h2, c, h3, h4, (hn _ (by decide) (by decide)).trans h5, fun i j hi hj => (hn _ (by omega) (by omega)).trans (h6 i j hi hj)⟩
theorem RD_q {dia mt dia' mt' n : mF} {T : Nat} (h : RD dia mt n T) (e0 : dia' 0 = dia 0) (e1 : dia' 1 = dia 1) (e2 : eqr mt' mt 180) : RD dia' mt' n T := by
  obtain ⟨h1, h2, c, h3, h4, h5, h6⟩ := h
  refine ⟨h1.trans e0.symm, h2.trans e1.symm, c, h3, e1.trans h4, h5, fun i j hi hj => (h6 i j hi hj).trans (e2 _ ?_).symm⟩
  have := Nat.mod_lt (c - min c 30 + i) (show 0 < 30 by decide)
  omega
theorem WI_n {J T : Nat} {joins n n' : mF} {W : Nat → mF} (h : WI J joins W n T) (hn : ∀ k, k < 532 → n' k = n k) : WI J joins W n' T := by
  obtain ⟨h1, h2, h3, h4, h5, h6⟩ := h
  exact ⟨fun m hm => RMw_g (h1 m hm) (fun k hk => hn _ (by omega)), RD_n h2 (fun k _ b => hn k b), (hn _ (by decide)).trans h3, h4, h5, h6⟩
theorem WI_T {J T T' : Nat} {joins n : mF} {W : Nat → mF} (h : WI J joins W n T) (hT : T ≤ T') : WI J joins W n T' := by
  obtain ⟨h1, h2, h3, h4, h5, h6⟩ := h
  exact ⟨h1, RD_c h2 hT (fun _ _ => rfl), h3, h4, h5, h6⟩
/-- what World.copy makes of U by V -/
def cW (U V : Nat → mF) : Nat → mF := fun c => match c with
  | 0 => upd (U 0) 2 (V 0 2)
  | 1 => upd (upd (U 1) 0 (V 1 0)) 1 (V 1 1)
  | 2 => va_cpy (V 2) (U 2) 0 0 180
  | 4 => va_cpy (V 4) (U 4) 0 0 20
  | 6 => va_cpy (V 6) (U 6) 0 0 96
  | 7 => upd (U 7) 0 (V 7 0)
  | 8 => va_cpy (V 8) (U 8) 0 0 12
  | 9 => va_cpy (V 9) (U 9) 0 0 12
  | 10 => va_cpy (V 10) (U 10) 0 0 12
  | 11 => (FX2_copy (U 11) (V 11)).2
  | 12 => (FX2_copy (U 12) (V 12)).2
  | 14 => va_cpy (V 14) (U 14) 0 0 20
  | 16 => va_cpy (V 16) (U 16) 0 0 96
  | 17 => upd (U 17) 0 (V 17 0)
  | 18 => va_cpy (V 18) (U 18) 0 0 12
  | 19 => va_cpy (V 19) (U 19) 0 0 12
  | 20 => va_cpy (V 20) (U 20) 0 0 12
  | 21 => (FX2_copy (U 21) (V 21)).2
  | 22 => (FX2_copy (U 22) (V 22)).2
  | c => U c
def tC (W : Nat → mF) : Int32 × mF × mF × mF × mF × mF × mF × mF × mF × mF × mF × mF × mF × mF × mF × mF × mF × mF × mF × mF := (0, W 0, W 1, W 2, W 4, W 6, W 7, W 8, W 9, W 10, W 11, W 12, W 14, W 16, W 17, W 18, W 19, W 20, W 21, W 22)
theorem lk_cp {U V : mF} : eqr (FX2_copy U V).2 V 10 := by
  intro k hk
  rcases (show k = 0 ∨ k = 1 ∨ k = 2 ∨ k = 3 ∨ k = 4 ∨ k = 5 ∨ k = 6 ∨ k = 7 ∨ k = 8 ∨ k = 9 by omega) with rfl | rfl | rfl | rfl | rfl | rfl | rfl | rfl | rfl | rfl <;> rfl
section CPY
variable {U V : Nat → mF} {joins n : mF} {J T : Nat}
theorem copy_e : FX8_copy (U 0) (U 1) (U 2) (U 4) (U 6) (U 7) (U 8) (U 9) (U 10) (U 11) (U 12) (U 14) (U 16) (U 17) (U 18) (U 19) (U 20) (U 21) (U 22) (V 0) (V 1) (V 2) (V 4) (V 6) (V 7) (V 8) (V 9) (V 10) (V 11) (V 12) (V 14) (V 16) (V 17) (V 18) (V 19) (V 20) (V 21) (V 22) = tC (cW U V) := rfl
theorem ocopy_e (h : RW2 V n) : OX8_copy (U 0) (U 1) (U 2) (U 4) (U 6) (U 7) (U 8) (U 9) (U 10) (U 11) (U 12) (U 14) (U 16) (U 17) (U 18) (U 19) (U 20) (U 21) (U 22) (V 0) (V 1) (V 2) (V 4) (V 6) (V 7) (V 8) (V 9) (V 10) (V 11) (V 12) (V 14) (V 16) (V 17) (V 18) (V 19) (V 20) (V 21) (V 22) := by
  have q : ∀ m, m < 2 → (∀ i, i < 12 → fits .boolean (.int (V (10 + 10 * m) (0 + i))) = true) ∧ ((V (11 + 10 * m)) 7 = 0 ∨ (V (11 + 10 * m)) 7 = 1) ∧ ((V (12 + 10 * m)) 7 = 0 ∨ (V (12 + 10 * m)) 7 = 1) := by
    intro m hm
    obtain ⟨-, -, -, -, -, ⟨s, -, -, -, -, b, -⟩, l0, l1⟩ := h m hm
    refine ⟨fun i hi => ?_, l0.2.2.1.2.1, l1.2.2.1.2.1⟩
    rw [Nat.zero_add]
    rcases b i hi with e | e <;> rw [e] <;> rfl
  obtain ⟨a1, a2, a3⟩ := q 0 (by decide)
  obtain ⟨b1, b2, b3⟩ := q 1 (by decide)
  exact ⟨⟨a1, a2, a3⟩, ⟨b1, b2, b3⟩⟩
theorem RI_q {W : Nat → mF} (h : RI J joins V) (e : ∀ m i, m < 2 → i < 2 → W (11 + 10 * m + i) 7 = V (11 + 10 * m + i) 7 ∧ W (11 + 10 * m + i) 0 = V (11 + 10 * m + i) 0) : RI J joins W := by
  intro k s i r j hk hs hi hr hj e1 e2
  rw [(e r j hr hj).1, (e s i hs hi).2]
  exact h k s i r j hk hs hi hr hj e1 e2
theorem WI_copy (h : WI J joins V n T) (u3 : U 3 0 = 0) (u13 : U 13 0 = 1) : WI J joins (cW U V) n T := by
  obtain ⟨h1, h2, h3, h4, h5, h6⟩ := h
  refine ⟨fun m hm => ?_, RD_q h2 rfl rfl eqr_cpy, h3, u3, u13, RI_q h6 (fun m i hm hi => ?_)⟩
  · have := h1 m hm
    rcases (show m = 0 ∨ m = 1 by omega) with rfl | rfl
    · exact RM_q this eqr_cpy eqr_cpy rfl eqr_cpy eqr_cpy eqr_cpy lk_cp lk_cp
    · exact RM_q this eqr_cpy eqr_cpy rfl eqr_cpy eqr_cpy eqr_cpy lk_cp lk_cp
  · rcases (show m = 0 ∨ m = 1 by omega) with rfl | rfl <;> rcases (show i = 0 ∨ i = 1 by omega) with rfl | rfl <;> exact ⟨rfl, rfl⟩
end CPY
theorem cp_keep {this now : mF} {u : Nat} (hu : u < 8) (e : this 44 = nI u) : ∀ (m i fuel : Nat) (a : mF), i + m = 532 → m < fuel → OX10_keepsAct_b3 fuel (nI i) this now a ∧ FX10_keepsAct_b3 fuel (nI i) this now a = fun k => if 532 * u + i ≤ k ∧ k < 532 * u + 532 then now (k - 532 * u) else a k
  | _, _, 0, _, _, h => absurd h (Nat.not_lt_zero _)
  | 0, i, fuel + 1, a, h, _ => by
    have c : (532 : Int32) ≤ nI i := nI_le (a := 532) (by omega) (by omega)
    rw [OX10_keepsAct_b3, FX10_keepsAct_b3, if_pos c]
    refine ⟨⟨fun _ => trivial, fun q => absurd c q⟩, ?_⟩
    funext k
    rw [if_neg (by omega)]
  | m + 1, i, fuel + 1, a, h, hf => by
    have c : ¬ (532 : Int32) ≤ nI i := nI_ge (b := 532) (by omega) (by decide)
    have e2 : (nI i).toNatClampNeg = i := nI_clamp (by omega)
    have v2 : vp_in (nI i) 532 := vp_in_nI (by omega) (by decide)
    have e3 : (532 * this 44 + nI i).toNatClampNeg = 532 * u + i := by
      rw [e, show (532 : Int32) * nI u = nI (532 * u) from nI_mul 532 u, nI_add, nI_clamp (by omega)]
    have v3 : vp_in (532 * this 44 + nI i) 4256 := by
      rw [e, show (532 : Int32) * nI u = nI (532 * u) from nI_mul 532 u, nI_add]
      exact vp_in_nI (by omega) (by decide)
    have ih := cp_keep (now := now) hu e m (i + 1) fuel (upd a (532 * u + i) (now i)) (by omega) (by omega)
    rw [OX10_keepsAct_b3, FX10_keepsAct_b3, if_neg c, e2, e3, nI_1]
    refine ⟨⟨fun q => absurd q c, fun _ => ⟨v2, v3, ih.1⟩⟩, ih.2.trans ?_⟩
    funext k
    simp only [upd_at]
    by_cases q : 532 * u + (i + 1) ≤ k ∧ k < 532 * u + 532
    · rw [if_pos q, if_pos (show 532 * u + i ≤ k ∧ k < 532 * u + 532 by omega)]
    · rw [if_neg q]
      by_cases q2 : k = 532 * u + i
      · rw [if_pos q2, if_pos (show 532 * u + i ≤ k ∧ k < 532 * u + 532 by omega)]
        exact congrArg now (by omega)
      · rw [if_neg q2, if_neg (show ¬ (532 * u + i ≤ k ∧ k < 532 * u + 532) by omega)]
theorem cp_undo {this acts : mF} {u : Nat} (hu : u < 8) (e : this 44 = nI u) : ∀ (m i fuel : Nat) (a : mF), i + m = 532 → m < fuel → OX10_undo_b2 fuel (nI i) this a acts ∧ FX10_undo_b2 fuel (nI i) this a acts = fun k => if i ≤ k ∧ k < 532 then acts (532 * u + k) else a k
  | _, _, 0, _, _, h => absurd h (Nat.not_lt_zero _)
  | 0, i, fuel + 1, a, h, _ => by
    have c : (532 : Int32) ≤ nI i := nI_le (a := 532) (by omega) (by omega)
    rw [OX10_undo_b2, FX10_undo_b2, if_pos c]
    refine ⟨⟨fun _ => trivial, fun q => absurd c q⟩, ?_⟩
    funext k
    rw [if_neg (by omega)]
  | m + 1, i, fuel + 1, a, h, hf => by
    have c : ¬ (532 : Int32) ≤ nI i := nI_ge (b := 532) (by omega) (by decide)
    have e2 : (nI i).toNatClampNeg = i := nI_clamp (by omega)
    have v2 : vp_in (nI i) 532 := vp_in_nI (by omega) (by decide)
    have e3 : (532 * this 44 + nI i).toNatClampNeg = 532 * u + i := by
      rw [e, show (532 : Int32) * nI u = nI (532 * u) from nI_mul 532 u, nI_add, nI_clamp (by omega)]
    have v3 : vp_in (532 * this 44 + nI i) 4256 := by
      rw [e, show (532 : Int32) * nI u = nI (532 * u) from nI_mul 532 u, nI_add]
      exact vp_in_nI (by omega) (by decide)
    have ih := cp_undo (acts := acts) hu e m (i + 1) fuel (upd a (i) (acts (532 * u + i))) (by omega) (by omega)
    rw [OX10_undo_b2, FX10_undo_b2, if_neg c, e2, e3, nI_1]
    refine ⟨⟨fun q => absurd q c, fun _ => ⟨v3, v2, ih.1⟩⟩, ih.2.trans ?_⟩
    funext k
    simp only [upd_at]
    by_cases q : i + 1 ≤ k ∧ k < 532
    · rw [if_pos q, if_pos (show i ≤ k ∧ k < 532 by omega)]
    · rw [if_neg q]
      by_cases q2 : k = i
      · rw [if_pos q2, if_pos (show i ≤ k ∧ k < 532 by omega)]
        exact congrArg acts (by omega)
      · rw [if_neg q2, if_neg (show ¬ (i ≤ k ∧ k < 532) by omega)]
theorem cp_aside {now : mF} : ∀ (m i fuel : Nat) (a : mF), i + m = 532 → m < fuel → OX10_putsAside_b1 fuel (nI i) now a ∧ FX10_putsAside_b1 fuel (nI i) now a = fun k => if i ≤ k ∧ k < 532 then now k else a k
  | _, _, 0, _, _, h => absurd h (Nat.not_lt_zero _)
  | 0, i, fuel + 1, a, h, _ => by
    have c : (532 : Int32) ≤ nI i := nI_le (a := 532) (by omega) (by omega)
    rw [OX10_putsAside_b1, FX10_putsAside_b1, if_pos c]
    refine ⟨⟨fun _ => trivial, fun q => absurd c q⟩, ?_⟩
    funext k
    rw [if_neg (by omega)]
  | m + 1, i, fuel + 1, a, h, hf => by
    have c : ¬ (532 : Int32) ≤ nI i := nI_ge (b := 532) (by omega) (by decide)
    have e2 : (nI i).toNatClampNeg = i := nI_clamp (by omega)
    have v2 : vp_in (nI i) 532 := vp_in_nI (by omega) (by decide)
    have ih := cp_aside (now := now) m (i + 1) fuel (upd a (i) (now i)) (by omega) (by omega)
    rw [OX10_putsAside_b1, FX10_putsAside_b1, if_neg c, e2, nI_1]
    refine ⟨⟨fun q => absurd q c, fun _ => ⟨v2, v2, ih.1⟩⟩, ih.2.trans ?_⟩
    funext k
    simp only [upd_at]
    by_cases q : i + 1 ≤ k ∧ k < 532
    · rw [if_pos q, if_pos (show i ≤ k ∧ k < 532 by omega)]
    · rw [if_neg q]
      by_cases q2 : k = i
      · rw [if_pos q2, if_pos (show i ≤ k ∧ k < 532 by omega)]
        exact congrArg now (by omega)
      · rw [if_neg q2, if_neg (show ¬ (i ≤ k ∧ k < 532) by omega)]
theorem cp_back {aside : mF} : ∀ (m i fuel : Nat) (a : mF), i + m = 532 → m < fuel → OX10_comesBack_b1 fuel (nI i) a aside ∧ FX10_comesBack_b1 fuel (nI i) a aside = fun k => if i ≤ k ∧ k < 532 then aside k else a k
  | _, _, 0, _, _, h => absurd h (Nat.not_lt_zero _)
  | 0, i, fuel + 1, a, h, _ => by
    have c : (532 : Int32) ≤ nI i := nI_le (a := 532) (by omega) (by omega)
    rw [OX10_comesBack_b1, FX10_comesBack_b1, if_pos c]
    refine ⟨⟨fun _ => trivial, fun q => absurd c q⟩, ?_⟩
    funext k
    rw [if_neg (by omega)]
  | m + 1, i, fuel + 1, a, h, hf => by
    have c : ¬ (532 : Int32) ≤ nI i := nI_ge (b := 532) (by omega) (by decide)
    have e2 : (nI i).toNatClampNeg = i := nI_clamp (by omega)
    have v2 : vp_in (nI i) 532 := vp_in_nI (by omega) (by decide)
    have ih := cp_back (aside := aside) m (i + 1) fuel (upd a (i) (aside i)) (by omega) (by omega)
    rw [OX10_comesBack_b1, FX10_comesBack_b1, if_neg c, e2, nI_1]
    refine ⟨⟨fun q => absurd q c, fun _ => ⟨v2, v2, ih.1⟩⟩, ih.2.trans ?_⟩
    funext k
    simp only [upd_at]
    by_cases q : i + 1 ≤ k ∧ k < 532
    · rw [if_pos q, if_pos (show i ≤ k ∧ k < 532 by omega)]
    · rw [if_neg q]
      by_cases q2 : k = i
      · rw [if_pos q2, if_pos (show i ≤ k ∧ k < 532 by omega)]
        exact congrArg aside (by omega)
      · rw [if_neg q2, if_neg (show ¬ (i ≤ k ∧ k < 532) by omega)]
theorem cp_kept {now : mF} {x : Int32} {u : Nat} (hu : u < 2) (e : x = nI u) : ∀ (m i fuel : Nat) (a : mF), i + m = 532 → m < fuel → OX10_keep_b2 fuel x (nI i) now a ∧ FX10_keep_b2 fuel x (nI i) now a = fun k => if 532 * u + i ≤ k ∧ k < 532 * u + 532 then now (k - 532 * u) else a k
  | _, _, 0, _, _, h => absurd h (Nat.not_lt_zero _)
  | 0, i, fuel + 1, a, h, _ => by
    have c : (532 : Int32) ≤ nI i := nI_le (a := 532) (by omega) (by omega)
    rw [OX10_keep_b2, FX10_keep_b2, if_pos c]
    refine ⟨⟨fun _ => trivial, fun q => absurd c q⟩, ?_⟩
    funext k
    rw [if_neg (by omega)]
  | m + 1, i, fuel + 1, a, h, hf => by
    have c : ¬ (532 : Int32) ≤ nI i := nI_ge (b := 532) (by omega) (by decide)
    have e2 : (nI i).toNatClampNeg = i := nI_clamp (by omega)
    have v2 : vp_in (nI i) 532 := vp_in_nI (by omega) (by decide)
    have e3 : (532 * x + nI i).toNatClampNeg = 532 * u + i := by
      rw [e, show (532 : Int32) * nI u = nI (532 * u) from nI_mul 532 u, nI_add, nI_clamp (by omega)]
    have v3 : vp_in (532 * x + nI i) 1064 := by
      rw [e, show (532 : Int32) * nI u = nI (532 * u) from nI_mul 532 u, nI_add]
      exact vp_in_nI (by omega) (by decide)
    have ih := cp_kept (now := now) hu e m (i + 1) fuel (upd a (532 * u + i) (now i)) (by omega) (by omega)
    rw [OX10_keep_b2, FX10_keep_b2, if_neg c, e2, e3, nI_1]
    refine ⟨⟨fun q => absurd q c, fun _ => ⟨v2, v3, ih.1⟩⟩, ih.2.trans ?_⟩
    funext k
    simp only [upd_at]
    by_cases q : 532 * u + (i + 1) ≤ k ∧ k < 532 * u + 532
    · rw [if_pos q, if_pos (show 532 * u + i ≤ k ∧ k < 532 * u + 532 by omega)]
    · rw [if_neg q]
      by_cases q2 : k = 532 * u + i
      · rw [if_pos q2, if_pos (show 532 * u + i ≤ k ∧ k < 532 * u + 532 by omega)]
        exact congrArg now (by omega)
      · rw [if_neg q2, if_neg (show ¬ (532 * u + i ≤ k ∧ k < 532 * u + 532) by omega)]
theorem cp_bk {kept : mF} {x : Int32} {u : Nat} (hu : u < 2) (e : x = nI u) : ∀ (m i fuel : Nat) (a : mF), i + m = 532 → m < fuel → OX10_back_b3 fuel x (nI i) a kept ∧ FX10_back_b3 fuel x (nI i) a kept = fun k => if i ≤ k ∧ k < 532 then kept (532 * u + k) else a k
  | _, _, 0, _, _, h => absurd h (Nat.not_lt_zero _)
  | 0, i, fuel + 1, a, h, _ => by
    have c : (532 : Int32) ≤ nI i := nI_le (a := 532) (by omega) (by omega)
    rw [OX10_back_b3, FX10_back_b3, if_pos c]
    refine ⟨⟨fun _ => trivial, fun q => absurd c q⟩, ?_⟩
    funext k
    rw [if_neg (by omega)]
  | m + 1, i, fuel + 1, a, h, hf => by
    have c : ¬ (532 : Int32) ≤ nI i := nI_ge (b := 532) (by omega) (by decide)
    have e2 : (nI i).toNatClampNeg = i := nI_clamp (by omega)
    have v2 : vp_in (nI i) 532 := vp_in_nI (by omega) (by decide)
    have e3 : (532 * x + nI i).toNatClampNeg = 532 * u + i := by
      rw [e, show (532 : Int32) * nI u = nI (532 * u) from nI_mul 532 u, nI_add, nI_clamp (by omega)]
    have v3 : vp_in (532 * x + nI i) 1064 := by
      rw [e, show (532 : Int32) * nI u = nI (532 * u) from nI_mul 532 u, nI_add]
      exact vp_in_nI (by omega) (by decide)
    have ih := cp_bk (kept := kept) hu e m (i + 1) fuel (upd a (i) (kept (532 * u + i))) (by omega) (by omega)
    rw [OX10_back_b3, FX10_back_b3, if_neg c, e2, e3, nI_1]
    refine ⟨⟨fun q => absurd q c, fun _ => ⟨v3, v2, ih.1⟩⟩, ih.2.trans ?_⟩
    funext k
    simp only [upd_at]
    by_cases q : i + 1 ≤ k ∧ k < 532
    · rw [if_pos q, if_pos (show i ≤ k ∧ k < 532 by omega)]
    · rw [if_neg q]
      by_cases q2 : k = i
      · rw [if_pos q2, if_pos (show i ≤ k ∧ k < 532 by omega)]
        exact congrArg kept (by omega)
      · rw [if_neg q2, if_neg (show ¬ (i ≤ k ∧ k < 532) by omega)]
theorem cp_shift {this : mF} (e : this 44 = nI 7) : ∀ (m i fuel : Nat) (a : mF), i + m = 3724 → m < fuel → OX10_keepsAct_b1 fuel (nI i) this a ∧ FX10_keepsAct_b1 fuel (nI i) this a = fun k => if i ≤ k ∧ k < 3724 then a (k + 532) else a k
  | _, _, 0, _, _, h => absurd h (Nat.not_lt_zero _)
  | 0, i, fuel + 1, a, h, _ => by
    have c : 532 * this 44 ≤ nI i := by
      rw [e]
      exact nI_le (a := 3724) (by omega) (by omega)
    rw [OX10_keepsAct_b1, FX10_keepsAct_b1, if_pos c]
    refine ⟨⟨fun _ => trivial, fun q => absurd c q⟩, ?_⟩
    funext k
    rw [if_neg (by omega)]
  | m + 1, i, fuel + 1, a, h, hf => by
    have c : ¬ 532 * this 44 ≤ nI i := by
      rw [e]
      exact nI_ge (b := 3724) (by omega) (by decide)
    have e2 : (nI i).toNatClampNeg = i := nI_clamp (by omega)
    have e3 : (nI i + 532).toNatClampNeg = i + 532 := by
      rw [show (532 : Int32) = nI 532 from rfl, nI_add, nI_clamp (by omega)]
    have v2 : vp_in (nI i) 4256 := vp_in_nI (by omega) (by decide)
    have v3 : vp_in (nI i + 532) 4256 := by
      rw [show (532 : Int32) = nI 532 from rfl, nI_add]
      exact vp_in_nI (by omega) (by decide)
    have ih := cp_shift e m (i + 1) fuel (upd a i (a (i + 532))) (by omega) (by omega)
    rw [OX10_keepsAct_b1, FX10_keepsAct_b1, if_neg c, e2, e3, nI_1]
    refine ⟨⟨fun q => absurd q c, fun _ => ⟨v3, v2, ih.1⟩⟩, ih.2.trans ?_⟩
    funext k
    simp only [upd_at]
    by_cases q : i + 1 ≤ k ∧ k < 3724
    · rw [if_pos q, if_pos (show i ≤ k ∧ k < 3724 by omega), if_neg (by omega)]
    · rw [if_neg q]
      by_cases q2 : k = i
      · rw [if_pos q2, if_pos (show i ≤ k ∧ k < 3724 by omega), q2]
      · rw [if_neg q2, if_neg (show ¬ (i ≤ k ∧ k < 3724) by omega)]
