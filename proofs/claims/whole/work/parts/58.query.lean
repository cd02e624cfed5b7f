/-! PURE: what there is, asked on both sides (GENERATED, wip/gen/p/58.py) -/
/-- the model's numbers that a call may touch -/
def FE (f f' : mF) : Prop := ∀ k, k ≠ 0 → k ≠ 45 → k ≠ 46 → f' k = f k
theorem FE_r {f : mF} : FE f f := fun _ _ _ _ => rfl
theorem FE_0 {f : mF} {x : Int32} : FE f (upd f 0 x) := fun _ h _ _ => pk_un h
theorem FE_45 {f : mF} {x y : Int32} : FE f (upd (upd f 0 x) 45 y) := fun _ h h2 _ => (pk_un h2).trans (pk_un h)
theorem FE_t {f g k : mF} (h : FE f g) (h2 : FE g k) : FE f k := fun j a b c => (h2 j a b c).trans (h j a b c)
theorem bit_c (x : Int32) : (x = 0 ∨ x = 1) ∨ (FX10_isIn x 0 1 = 0 ∧ (x < 0 ∨ (¬ x < 0 ∧ ¬ x < 2 ∧ 2 ≤ x))) := by
  by_cases h : x < 0
  · exact Or.inr ⟨if_pos h, Or.inl h⟩
  · obtain ⟨k, hk, e⟩ := nI_of h
    rcases Nat.lt_or_ge k 2 with q | q
    · rcases (show k = 0 ∨ k = 1 by omega) with rfl | rfl
      · exact Or.inl (Or.inl (e.trans nI_0))
      · exact Or.inl (Or.inr (nI1' e))
    · have h2 : ¬ x < 2 := by rw [e]; exact nI_nlt (a := k) (b := 2) q (by omega)
      have h3 : 2 ≤ x := by rw [e]; exact nI_le (a := 2) q hk
      have h4 : (1 : Int32) < x := by rw [e]; exact nI_lt (a := 1) (b := k) (by omega) hk
      exact Or.inr ⟨(if_neg h).trans (if_pos h4), Or.inr ⟨h, h2, h3⟩⟩
theorem mach_c (x : Int32) : (x = 0 ∨ x = 1) ∨ (FX10_isMachine x = 0 ∧ FX9_isMachine x = 0) := by
  rcases bit_c x with h | ⟨h, h2⟩
  · exact Or.inl h
  · refine Or.inr ⟨h, ?_⟩
    unfold FX9_isMachine
    rcases h2 with h2 | ⟨h2, h3, h4⟩
    · rw [if_pos h2]
    · rw [if_neg h2, if_pos h4]
theorem omach (x : Int32) : OX10_isMachine x := by
  unfold OX10_isMachine FX10_isIn
  split
  · exact Or.inl rfl
  · split
    · exact Or.inl rfl
    · exact Or.inr rfl
theorem get_i {b k : Nat} {f n : mF} (h : b + k < 532) : FX10_get (nI k) (upd f 45 (nI b)) n = n (b + k) ∧ OX10_get (nI k) (upd f 45 (nI b)) n := by
  unfold FX10_get OX10_get
  rw [pk_us, nI_add, nI_clamp (by omega)]
  exact ⟨rfl, vp_in_nI h (by decide)⟩
section QRY
variable {W : Nat → mF} {f joins n : mF}
theorem c_machine {x y : Int32} (h : RW2 W n) : OX9_machine x y (W 4) (W 7) (W 14) (W 17) ∧ OX10_machine x y f n ∧ ∃ f', FX10_machine x y f n = (FX9_machine x y (W 4) (W 7) (W 14) (W 17), f') ∧ FE f f' := by
  rcases mach_c x with hx | ⟨h1, h2⟩
  · have z10 : ¬ (1 : Int32) = 0 := by decide
    have key : ∀ m, m < 2 → x = nI m → ∀ reg tz, reg = W (4 + 10 * m) → tz = W (7 + 10 * m) → OX3_tell y reg tz ∧ OX10_machine x y f n ∧ ∃ f', FX10_machine x y f n = (FX3_tell y reg tz, f') ∧ FE f f' := by
      intro m hm ex reg tz er et
      subst er
      subst et
      subst ex
      have eb : FX10_base (nI m) = nI (174 * m) := by rcases (show m = 0 ∨ m = 1 by omega) with rfl | rfl <;> decide
      have em : FX10_isMachine (nI m) = 1 := by rcases (show m = 0 ∨ m = 1 by omega) with rfl | rfl <;> decide
      have H : Hb (upd (upd f 0 0) 45 (nI (174 * m))) (174 * m) := ⟨pk_us, by omega⟩
      have eF : fb (upd (upd f 0 0) 45 (nI (174 * m))) (upd (upd f 0 0) 45 (nI (174 * m)) 46) = upd (upd f 0 0) 45 (nI (174 * m)) := upd_self rfl
      have eN : emb (174 * m) n (fun k => n (174 * m + k)) = n := emb_self
      obtain ⟨g1, g2⟩ := get_i (f := upd f 0 0) (n := n) (b := 174 * m) (k := 102) (by omega)
      have g1 : FX10_get 102 (upd (upd f 0 0) 45 (nI (174 * m))) n = n (174 * m + 102) := g1
      have g2 : OX10_get 102 (upd (upd f 0 0) 45 (nI (174 * m))) n := g2
      by_cases c : n (174 * m + 102) = 1
      · have q := q_mach (n := n) (y := y) (z0 := 1) (z := upd (upd f 0 0) 45 (nI (174 * m)) 46) H (h m hm) (Or.inl ⟨c, rfl⟩)
        rw [eF, eN] at q
        obtain ⟨q1, q2, q3⟩ := q
        refine ⟨q3, ⟨omach _, ?_⟩, upd (upd f 0 0) 45 (nI (174 * m)), ?_, FE_45⟩
        · rw [em]
          refine ⟨fun z => absurd z z10, fun _ => ?_⟩
          rw [eb]
          refine ⟨g2, ?_⟩
          rw [g1]
          exact ⟨fun _ => q1, fun z => absurd c z⟩
        · unfold FX10_machine
          rw [em]
          dsimp only
          rw [if_neg z10, eb, g1, if_pos c, q2]
      · have q := q_mach (n := n) (y := y) (z0 := 0) (z := upd (upd f 0 0) 45 (nI (174 * m)) 46) H (h m hm) (Or.inr ⟨c, rfl⟩)
        rw [eF, eN] at q
        obtain ⟨q1, q2, q3⟩ := q
        refine ⟨q3, ⟨omach _, ?_⟩, upd (upd f 0 0) 45 (nI (174 * m)), ?_, FE_45⟩
        · rw [em]
          refine ⟨fun z => absurd z z10, fun _ => ?_⟩
          rw [eb]
          refine ⟨g2, ?_⟩
          rw [g1]
          exact ⟨fun z => absurd z c, fun _ => q1⟩
        · unfold FX10_machine
          rw [em]
          dsimp only
          rw [if_neg z10, eb, g1, if_neg c, q2]
    rcases hx with rfl | rfl
    · obtain ⟨k1, k2, f', k3, k4⟩ := key 0 (by decide) nI_0.symm _ _ rfl rfl
      exact ⟨⟨fun z => absurd z z10, fun _ => ⟨vp02, fun _ => k1, fun z => absurd rfl z⟩⟩, k2, f', k3, k4⟩
    · obtain ⟨k1, k2, f', k3, k4⟩ := key 1 (by decide) (by decide) _ _ rfl rfl
      exact ⟨⟨fun z => absurd z z10, fun _ => ⟨vp12, fun z => absurd z z10, fun _ => k1⟩⟩, k2, f', k3, k4⟩
  · refine ⟨⟨fun _ => trivial, fun z => absurd h2 z⟩, ⟨omach x, ?_⟩, upd f 0 0, ?_, FE_0⟩
    · rw [h1]
      exact ⟨fun _ => trivial, fun z => absurd rfl z⟩
    · unfold FX10_machine FX9_machine
      rw [h1, h2]
      rfl
theorem c_timer {x y z : Int32} (h : RW2 W n) : OX9_timer x y z (W 7) (W 8) (W 9) (W 17) (W 18) (W 19) ∧ OX10_timer x y z f n ∧ ∃ f', FX10_timer x y z f n = (FX9_timer x y z (W 7) (W 8) (W 9) (W 17) (W 18) (W 19), f') ∧ FE f f' := by
  have z10 : ¬ (1 : Int32) = 0 := by decide
  rcases mach_c x with (rfl | rfl) | ⟨h1, h2⟩
  · obtain ⟨q1, q2, q3⟩ := q_timer_0 (n := n) (f := f) (x := y) (y := z) (h 0 (by decide)).2.2.2.2.2.1 (fun k hk => rfl)
    have hm9 : ¬ FX9_isMachine 0 = 0 := by decide
    have e : FX9_timer 0 y z (W 7) (W 8) (W 9) (W 17) (W 18) (W 19) = FX6_tell y z (W 7) (W 8) (W 9) := by
      unfold FX9_timer
      dsimp only
      rw [if_neg hm9, if_pos rfl]
    rw [e]
    exact ⟨⟨fun z => absurd z hm9, fun _ => ⟨vp02, fun _ => q3, fun z => absurd rfl z⟩⟩, q1, _, q2, FE_0⟩
  · obtain ⟨q1, q2, q3⟩ := q_timer_1 (n := n) (f := f) (x := y) (y := z) (h 1 (by decide)).2.2.2.2.2.1 (fun k hk => rfl)
    have hm9 : ¬ FX9_isMachine 1 = 0 := by decide
    have e : FX9_timer 1 y z (W 7) (W 8) (W 9) (W 17) (W 18) (W 19) = FX6_tell y z (W 17) (W 18) (W 19) := by
      unfold FX9_timer
      dsimp only
      rw [if_neg hm9, if_neg z10]
    rw [e]
    exact ⟨⟨fun z => absurd z hm9, fun _ => ⟨vp12, fun z => absurd z z10, fun _ => q3⟩⟩, q1, _, q2, FE_0⟩
  · refine ⟨⟨fun _ => trivial, fun z => absurd h2 z⟩, ⟨omach x, ?_⟩, upd f 0 0, ?_, FE_0⟩
    · rw [h1]
      exact ⟨fun _ => trivial, fun z => absurd rfl z⟩
    · unfold FX10_timer FX9_timer
      rw [h1, h2]
      rfl
theorem c_link {x y z : Int32} (h : RW2 W n) : OX9_link x y z (W 11) (W 12) (W 21) (W 22) ∧ OX10_link x y z f n ∧ ∃ f', FX10_link x y z f n = (FX9_link x y z (W 11) (W 12) (W 21) (W 22), f') ∧ FE f f' := by
  have z10 : ¬ (1 : Int32) = 0 := by decide
  have a0 := (h 0 (by decide)).2.2.2.2.2.2
  have a1 := (h 1 (by decide)).2.2.2.2.2.2
  have oo : ∀ m, (m = 0 ∨ m = 1) → (vp_in m 2) := fun m hm => by rcases hm with rfl | rfl <;> first | exact vp02 | exact vp12
  rcases mach_c x with hx | ⟨h1, h2⟩
  · have hm9 : ¬ FX9_isMachine x = 0 := by rcases hx with rfl | rfl <;> decide
    have hm10 : ¬ FX10_isMachine x = 0 := by rcases hx with rfl | rfl <;> decide
    rcases bit_c y with hy | ⟨h3, h4⟩
    · have hy0 : ¬ y < 0 := by rcases hy with rfl | rfl <;> decide
      have hy2 : y < 2 := by rcases hy with rfl | rfl <;> decide
      have t1 : vp_in y 2 ∧ (y = 0 → True) ∧ (¬ y = 0 → True) := ⟨oo y hy, fun _ => trivial, fun _ => trivial⟩
      refine ⟨⟨fun q => absurd q hm9, fun _ => ⟨fun q => absurd q hy0, fun _ => ⟨fun _ => ⟨oo x hx, fun _ => t1, fun _ => t1⟩, fun q => absurd hy2 q⟩⟩⟩, ?_⟩
      rcases hx with rfl | rfl <;> rcases hy with rfl | rfl
      · obtain ⟨q1, q2⟩ := q_link_00 (n := n) (f := f) (x := z) a0.1 (fun k hk => rfl)
        exact ⟨q1, _, q2, FE_0⟩
      · obtain ⟨q1, q2⟩ := q_link_01 (n := n) (f := f) (x := z) a0.2 (fun k hk => rfl)
        exact ⟨q1, _, q2, FE_0⟩
      · obtain ⟨q1, q2⟩ := q_link_10 (n := n) (f := f) (x := z) a1.1 (fun k hk => rfl)
        exact ⟨q1, _, q2, FE_0⟩
      · obtain ⟨q1, q2⟩ := q_link_11 (n := n) (f := f) (x := z) a1.2 (fun k hk => rfl)
        exact ⟨q1, _, q2, FE_0⟩
    · refine ⟨⟨fun q => absurd q hm9, fun _ => ⟨fun _ => trivial, fun q => ⟨fun q2 => ?_, fun _ => trivial⟩⟩⟩, ⟨omach x, ?_⟩, upd f 0 0, ?_, FE_0⟩
      · rcases h4 with h4 | ⟨h4, h5, h6⟩
        · exact absurd h4 q
        · exact absurd q2 h5
      · refine ⟨fun q => absurd q hm10, fun _ => ?_⟩
        rw [h3]
        exact ⟨fun _ => trivial, fun z => absurd rfl z⟩
      · unfold FX10_link FX9_link
        dsimp only
        rw [if_neg hm10, if_neg hm9, h3]
        rcases h4 with h4 | ⟨h4, h5, h6⟩
        · rw [if_pos h4, if_pos rfl]
        · rw [if_neg h4, if_neg h5, if_pos rfl]
  · refine ⟨⟨fun _ => trivial, fun z => absurd h2 z⟩, ⟨omach x, ?_⟩, upd f 0 0, ?_, FE_0⟩
    · rw [h1]
      exact ⟨fun _ => trivial, fun z => absurd rfl z⟩
    · unfold FX10_link FX9_link
      rw [h1, h2]
      rfl
theorem c_meeting {x y : Int32} {T : Nat} (h : RD (W 1) (W 2) n T) (hT : T < 2 ^ 30) : OX9_meeting x y (W 1) (W 2) ∧ OX10_meeting x y f n ∧ ∃ f', FX10_meeting x y f n = (FX9_meeting x y (W 1) (W 2), f') ∧ FE f f' := by
  obtain ⟨q1, q2, q3⟩ := q_meeting (f := f) (x := x) (y := y) h hT
  exact ⟨q3, q1, _, q2, FE_0⟩
theorem place_c (x : Int32) : (FX9_isPlace x = 1 ∧ FX10_isPlace x = 1 ∧ ∃ k : Nat, k < 96 ∧ x = nI k) ∨ (FX9_isPlace x = 0 ∧ FX10_isPlace x = 0) := by
  by_cases h : isPl x
  · obtain ⟨k, hk, e⟩ := h
    exact Or.inl ⟨isPlace9_1 ⟨k, hk, e⟩, isPlace10_1 ⟨k, hk, e⟩, k, hk, e⟩
  · exact Or.inr ⟨isPlace9_0 h, isPlace10_0 h⟩
/-- a word is asked: where there is one, it is the same; where there is none, both say so -/
theorem c_word {x y : Int32} (h : RW2 W n) : OX10_word x y f n ∧ ((∃ f', OX9_word x y (W 6) (W 16) ∧ FX10_word x y f n = (FX9_word x y (W 6) (W 16), f') ∧ FE f f' ∧ f' 0 = 0 ∧ ¬ FX9_isMachine x = 0 ∧ ¬ FX9_isPlace y = 0) ∨ (∃ f', FX10_word x y f n = (0, f') ∧ FE f f' ∧ f' 0 = 1 ∧ (FX9_isMachine x = 0 ∨ FX9_isPlace y = 0))) := by
  have z10 : ¬ (1 : Int32) = 0 := by decide
  rcases mach_c x with hx | ⟨h1, h2⟩
  · have hm9 : ¬ FX9_isMachine x = 0 := by rcases hx with rfl | rfl <;> decide
    have hm10 : ¬ FX10_isMachine x = 0 := by rcases hx with rfl | rfl <;> decide
    rcases place_c y with ⟨p1, p2, k, hk, e⟩ | ⟨p1, p2⟩
    · have key : ∀ m, m < 2 → FX10_base x = nI (174 * m) → OX10_word x y f n ∧ FX10_word x y f n = (W (6 + 10 * m) k, upd f 0 0) := by
        intro m hm eb
        constructor
        · refine ⟨omach x, fun q => absurd q hm10, fun _ => ?_⟩
          rw [p2]
          refine ⟨fun q => absurd q z10, fun _ => ?_⟩
          rw [eb, e]
          show vp_in (nI (174 * m) + nI k) 532
          rw [nI_add]
          exact vp_in_nI (by omega) (by decide)
        · unfold FX10_word
          dsimp only
          rw [if_neg hm10, p2, if_neg z10, eb, e, nI_add, nI_clamp (by omega)]
          have := (h m hm).2.1 k hk
          rw [show n (174 * m + k) = W (6 + 10 * m) k from this]
      have p10 : ¬ FX9_isPlace y = 0 := by rw [p1]; exact z10
      have vy : vp_in y 96 := by rw [e]; exact vp_in_nI hk (by decide)
      have cy : y.toNatClampNeg = k := by rw [e]; exact nI_clamp (by omega)
      have hx' := hx
      rcases hx with rfl | rfl
      · obtain ⟨k1, k2⟩ := key 0 (by decide) (by decide)
        refine ⟨k1, Or.inl ⟨_, ⟨fun q => absurd q hm9, fun _ => ⟨fun q => absurd q p10, fun _ => ⟨vp02, fun _ => vy, fun q => absurd rfl q⟩⟩⟩, ?_, FE_0 (x := 0), pk_us, hm9, p10⟩⟩
        rw [k2]
        unfold FX9_word
        dsimp only
        rw [if_neg hm9, if_neg p10, if_pos rfl, cy]
      · obtain ⟨k1, k2⟩ := key 1 (by decide) (by decide)
        refine ⟨k1, Or.inl ⟨_, ⟨fun q => absurd q hm9, fun _ => ⟨fun q => absurd q p10, fun _ => ⟨vp12, fun q => absurd q z10, fun _ => vy⟩⟩⟩, ?_, FE_0 (x := 0), pk_us, hm9, p10⟩⟩
        rw [k2]
        unfold FX9_word
        dsimp only
        rw [if_neg hm9, if_neg p10, if_neg z10, cy]
    · refine ⟨⟨omach x, fun q => absurd q hm10, fun _ => ⟨fun _ => trivial, fun q => absurd p2 q⟩⟩, Or.inr ⟨upd f 0 1, ?_, FE_0, pk_us, Or.inr p1⟩⟩
      unfold FX10_word
      dsimp only
      rw [if_neg hm10, if_pos p2]
  · refine ⟨⟨omach x, fun _ => trivial, fun q => absurd h1 q⟩, Or.inr ⟨upd f 0 1, ?_, FE_0, pk_us, Or.inl h2⟩⟩
    unfold FX10_word
    dsimp only
    rw [if_pos h1]
end QRY
