/-! PURE: meetings kept; words that go over (GENERATED, wip/gen/p/26.py) -/
def RD (dia mt n : mF) (T : Nat) : Prop := n 349 = dia 0 ∧ n 350 = dia 1 ∧ ∃ c : Nat, c ≤ T ∧ dia 1 = nI c ∧ n 351 = nI (min c 30) ∧ ∀ i j, i < min c 30 → j < 6 → n (352 + 6 * i + j) = mt ((c - min c 30 + i) % 30 * 6 + j)
theorem RD_c {dia mt n n' : mF} {T T' : Nat} (h : RD dia mt n T) (hT : T ≤ T') (hn : ∀ k, 349 ≤ k → n' k = n k) : RD dia mt n' T' := by
  obtain ⟨h1, h2, c, h3, h4, h5, h6⟩ := h
  refine ⟨(hn _ (by decide)).trans h1, (hn _ (by decide)).trans h2, c, by omega, h4, (hn _ (by decide)).trans h5, fun i j hi hj => (hn _ (by omega)).trans (h6 i j hi hj)⟩
theorem emb_of {b : Nat} {n g N : mF} (hb : b = 0 ∨ b = 174) (h : ∀ k, k < 348 → N k = emb b n g k) : N = emb b N g := by
  funext j
  unfold emb
  by_cases h1 : b ≤ j ∧ j < b + 174
  · rw [if_pos h1, h j (by omega)]
    unfold emb
    rw [if_pos h1]
  · rw [if_neg h1]
theorem m6 {k : Nat} (h : k ≤ 30) : nI k * 6 = nI (6 * k) ∧ (6 : Int32) * nI k = nI (6 * k) := by
  have e : ∀ k, k ≤ 30 → (nI k * 6 = nI (6 * k) ∧ (6 : Int32) * nI k = nI (6 * k)) := by decide +kernel
  exact e k h
theorem gMeets {y1 y2 y3 y4 y5 : Int32} : ∀ (m i fuel : Nat) (N : mF), i + m = 526 → 352 ≤ i → N 351 = nI 29 → m < fuel → OX10_meets_b2 fuel y1 y2 y3 y4 y5 (nI i) N ∧ FX10_meets_b2 fuel y1 y2 y3 y4 y5 (nI i) N = fun j => if i ≤ j ∧ j < 526 then N (j + 6) else N j
  | _, _, 0, _, _, _, _, h => absurd h (Nat.not_lt_zero _)
  | 0, i, fuel + 1, N, h, _, hN, _ => by
    have c : (352 : Int32) + 6 * N 351 ≤ nI i := by rw [hN, show (352 : Int32) + 6 * nI 29 = nI 526 by decide]; exact nI_le (by omega) (by omega)
    rw [OX10_meets_b2, FX10_meets_b2, if_pos c]
    refine ⟨⟨fun _ => trivial, fun h => absurd c h⟩, ?_⟩
    funext j
    rw [if_neg (by omega)]
  | m + 1, i, fuel + 1, N, h, hi, hN, hn => by
    have c : ¬ (352 : Int32) + 6 * N 351 ≤ nI i := by rw [hN, show (352 : Int32) + 6 * nI 29 = nI 526 by decide]; exact nI_ge (by omega) (by omega)
    have e6 : nI i + 6 = nI (i + 6) := nI_add i 6
    have ih := gMeets (y1 := y1) (y2 := y2) (y3 := y3) (y4 := y4) (y5 := y5) m (i + 1) fuel (upd N i (N (i + 6))) (by omega) (by omega) ((pk_un (by omega)).trans hN) (by omega)
    rw [OX10_meets_b2, FX10_meets_b2, if_neg c, e6, nI_clamp (by omega), nI_clamp (by omega), nI_1]
    refine ⟨⟨fun h => absurd h c, fun _ => ⟨vp_in_nI (by omega) (by decide), vp_in_nI (by omega) (by decide), ih.1⟩⟩, ih.2.trans ?_⟩
    funext j
    simp only [upd_at]
    by_cases h1 : i + 1 ≤ j ∧ j < 526
    · rw [if_pos h1, if_neg (by omega), if_pos (by omega)]
    · rw [if_neg h1]
      by_cases h2 : j = i
      · rw [if_pos h2, if_pos (by omega), h2]
      · rw [if_neg h2, if_neg (by omega)]
def put6 (N : mF) (a : Nat) (t y1 y2 y3 y4 y5 : Int32) : mF := upd (upd (upd (upd (upd (upd N a t) (a + 1) y1) (a + 2) y2) (a + 3) y3) (a + 4) y4) (a + 5) y5
theorem put6_out {N : mF} {a k : Nat} {t y1 y2 y3 y4 y5 : Int32} (h : k < a ∨ a + 6 ≤ k) : put6 N a t y1 y2 y3 y4 y5 k = N k := by
  unfold put6
  rw [pk_un (by omega), pk_un (by omega), pk_un (by omega), pk_un (by omega), pk_un (by omega), pk_un (by omega)]
theorem put6_in {N M : mF} {a c j : Nat} {t y1 y2 y3 y4 y5 : Int32} (hj : j < 6) : put6 N a t y1 y2 y3 y4 y5 (a + j) = put6 M c t y1 y2 y3 y4 y5 (c + j) := by
  rcases (show j = 0 ∨ j = 1 ∨ j = 2 ∨ j = 3 ∨ j = 4 ∨ j = 5 by omega) with rfl | rfl | rfl | rfl | rfl | rfl <;> simp only [put6, upd_at, Nat.add_zero, Nat.add_left_cancel_iff, Nat.add_eq_left, Nat.left_eq_add] <;> simp (decide := true) only [if_true, if_false]
theorem meets_b3e {N f : mF} {s : Nat} {y1 y2 y3 y4 y5 : Int32} (hs : s ≤ 29) (hN : N 351 = nI s) : OX10_meets_b3 y1 y2 y3 y4 y5 f N ∧ FX10_meets_b3 y1 y2 y3 y4 y5 f N = (0, upd (upd (put6 N (352 + 6 * s) (N 349) y1 y2 y3 y4 y5) 351 (nI (s + 1))) 350 (N 350 + 1)) := by
  have e0 : (352 : Int32) + 6 * N 351 = nI (352 + 6 * s) := by rw [hN, (m6 (by omega)).2]; exact nI_add 352 _
  have ek : ∀ k : Nat, nI (352 + 6 * s) + nI k = nI (352 + 6 * s + k) := fun k => nI_add _ _
  have v : ∀ k : Nat, k < 6 → vp_in (nI (352 + 6 * s) + nI k) 532 := fun k hk => by rw [ek]; exact vp_in_nI (by omega) (by decide)
  have cl : ∀ k : Nat, k < 6 → (nI (352 + 6 * s) + nI k).toNatClampNeg = 352 + 6 * s + k := fun k hk => by rw [ek]; exact nI_clamp (by omega)
  have h1 : put6 N (352 + 6 * s) (N 349) y1 y2 y3 y4 y5 351 = nI s := (put6_out (by omega)).trans hN
  have h0 : put6 N (352 + 6 * s) (N 349) y1 y2 y3 y4 y5 350 = N 350 := put6_out (by omega)
  constructor
  · rw [OX10_meets_b3, e0]
    exact ⟨vp_in_nI (by omega) (by decide), v 1 (by decide), v 2 (by decide), v 3 (by decide), v 4 (by decide), v 5 (by decide)⟩
  · rw [FX10_meets_b3, e0, nI_clamp (show 352 + 6 * s < 2 ^ 31 by omega)]
    have c1 := cl 1 (by decide)
    have c2 := cl 2 (by decide)
    have c3 := cl 3 (by decide)
    have c4 := cl 4 (by decide)
    have c5 := cl 5 (by decide)
    have c1 : (nI (352 + 6 * s) + 1).toNatClampNeg = 352 + 6 * s + 1 := c1
    have c2 : (nI (352 + 6 * s) + 2).toNatClampNeg = 352 + 6 * s + 2 := c2
    have c3 : (nI (352 + 6 * s) + 3).toNatClampNeg = 352 + 6 * s + 3 := c3
    have c4 : (nI (352 + 6 * s) + 4).toNatClampNeg = 352 + 6 * s + 4 := c4
    have c5 : (nI (352 + 6 * s) + 5).toNatClampNeg = 352 + 6 * s + 5 := c5
    rw [c1, c2, c3, c4, c5]
    show (0, upd (upd (put6 N (352 + 6 * s) (N 349) y1 y2 y3 y4 y5) 351 (put6 N (352 + 6 * s) (N 349) y1 y2 y3 y4 y5 351 + 1)) 350 (put6 N (352 + 6 * s) (N 349) y1 y2 y3 y4 y5 350 + 1)) = _
    rw [h1, h0, nI_1]
theorem noteE {dia mt : mF} {c : Nat} (hc : c < 2 ^ 30) (h : dia 1 = nI c) {y1 y2 y3 y4 y5 : Int32} : OX0_note y1 y2 y3 y4 y5 dia mt ∧ FX0_note y1 y2 y3 y4 y5 dia mt = (0, upd dia 1 (nI (c + 1)), put6 mt (6 * (c % 30)) (dia 0) y1 y2 y3 y4 y5) := by
  have e0 : (dia 1 - dia 1 / 30 * 30) * 6 = nI (6 * (c % 30)) := by
    rw [h, show nI c - nI c / 30 * 30 = nI (c % 30) from pk_rem (a := c) (d := 30) (by omega) (by decide) (by decide)]
    exact (m6 (by omega)).1
  have ek : ∀ k : Nat, nI (6 * (c % 30)) + nI k = nI (6 * (c % 30) + k) := fun k => nI_add _ _
  have v : ∀ k : Nat, k < 6 → vp_in (nI (6 * (c % 30)) + nI k) 180 := fun k hk => by rw [ek]; exact vp_in_nI (by omega) (by decide)
  have cl : ∀ k : Nat, k < 6 → (nI (6 * (c % 30)) + nI k).toNatClampNeg = 6 * (c % 30) + k := fun k hk => by rw [ek]; exact nI_clamp (by omega)
  constructor
  · rw [OX0_note, e0]
    exact ⟨vp_in_nI (by omega) (by decide), v 1 (by decide), v 2 (by decide), v 3 (by decide), v 4 (by decide), v 5 (by decide)⟩
  · rw [FX0_note, e0, nI_clamp (show 6 * (c % 30) < 2 ^ 31 by omega)]
    have c1 : (nI (6 * (c % 30)) + 1).toNatClampNeg = 6 * (c % 30) + 1 := cl 1 (by decide)
    have c2 : (nI (6 * (c % 30)) + 2).toNatClampNeg = 6 * (c % 30) + 2 := cl 2 (by decide)
    have c3 : (nI (6 * (c % 30)) + 3).toNatClampNeg = 6 * (c % 30) + 3 := cl 3 (by decide)
    have c4 : (nI (6 * (c % 30)) + 4).toNatClampNeg = 6 * (c % 30) + 4 := cl 4 (by decide)
    have c5 : (nI (6 * (c % 30)) + 5).toNatClampNeg = 6 * (c % 30) + 5 := cl 5 (by decide)
    rw [c1, c2, c3, c4, c5, h, nI_1]
    rfl
/-- a meeting is kept on both sides -/
theorem p_note {dia mt N f : mF} {T : Nat} (h : RD dia mt N T) (hT : T < 2 ^ 30) (hf : f 46 = 0) {y1 y2 y3 y4 y5 : Int32} : OX0_note y1 y2 y3 y4 y5 dia mt ∧ OX10_meets y1 y2 y3 y4 y5 f N ∧ ∃ N', FX10_meets y1 y2 y3 y4 y5 f N = (0, N') ∧ RD (FX0_note y1 y2 y3 y4 y5 dia mt).2.1 (FX0_note y1 y2 y3 y4 y5 dia mt).2.2 N' (T + 1) ∧ ∀ k, k < 350 → N' k = N k := by
  obtain ⟨h1, h2, c, h3, h4, h5, h6⟩ := h
  obtain ⟨n1, n2⟩ := noteE (mt := mt) (y1 := y1) (y2 := y2) (y3 := y3) (y4 := y4) (y5 := y5) (show c < 2 ^ 30 by omega) h4
  rw [n2]
  refine ⟨n1, ?_⟩
  rcases Nat.lt_or_ge c 30 with hc | hc
  · have em : min c 30 = c := by omega
    rw [em] at h5 h6
    have c1 : ¬ N 351 = 30 := by
      rw [h5]
      intro e
      have := (nI_eq (a := c) (b := 30) (by omega) (by decide)).mp e
      omega
    obtain ⟨b1, b2⟩ := meets_b3e (N := N) (f := f) (s := c) (y1 := y1) (y2 := y2) (y3 := y3) (y4 := y4) (y5 := y5) (by omega) h5
    refine ⟨by rw [OX10_meets]; exact ⟨fun _ => ⟨fun h => absurd h c1, fun _ => b1⟩, fun h => absurd hf h⟩, _, by rw [FX10_meets, if_pos hf, if_neg c1, b2], ?_, ?_⟩
    · dsimp only
      refine ⟨?_, ?_, c + 1, by omega, pk_us, ?_, ?_⟩
      · rw [pk_un (by omega), pk_un (by omega), put6_out (by omega), h1]; rfl
      · rw [pk_us, h2, h4, nI_1]; exact pk_us.symm
      · rw [pk_un (by omega), pk_us, show min (c + 1) 30 = c + 1 by omega]
      · intro i j hi hj
        have hi : i < c + 1 := by omega
        rw [pk_un (by omega), pk_un (by omega), show c + 1 - min (c + 1) 30 + i = i by omega, show i % 30 = i by omega, h1]
        rcases Nat.lt_or_ge i c with q | q
        · have h7 := h6 i j q hj
          rw [show c - c + i = i by omega, show i % 30 = i by omega] at h7
          rw [put6_out (by omega), put6_out (by omega), h7]
        · have e : i = c := by omega
          subst e
          rw [show i * 6 + j = 6 * (i % 30) + j by omega]
          exact put6_in hj
    · intro k hk
      rw [pk_un (by omega), pk_un (by omega), put6_out (by omega)]
  · have em : min c 30 = 30 := by omega
    rw [em] at h5 h6
    have c1 : N 351 = 30 := h5
    have c2 : N 351 - 1 = nI 29 := by rw [c1]; decide
    have sh := gMeets (y1 := y1) (y2 := y2) (y3 := y3) (y4 := y4) (y5 := y5) 174 352 10000 (upd N 351 (N 351 - 1)) (by decide) (by decide) (by rw [pk_us, c2]) (by decide)
    have sh2 : (FX10_meets_b2 10000 y1 y2 y3 y4 y5 352 (upd N 351 (N 351 - 1))) = fun j => if 352 ≤ j ∧ j < 526 then upd N 351 (N 351 - 1) (j + 6) else upd N 351 (N 351 - 1) j := sh.2
    have sh1 : OX10_meets_b2 10000 y1 y2 y3 y4 y5 352 (upd N 351 (N 351 - 1)) := sh.1
    obtain ⟨G, hG⟩ : ∃ G : mF, G = fun j => if 352 ≤ j ∧ j < 526 then upd N 351 (N 351 - 1) (j + 6) else upd N 351 (N 351 - 1) j := ⟨_, rfl⟩
    rw [← hG] at sh2
    have g51 : G 351 = nI 29 := by rw [hG]; dsimp only; rw [if_neg (by omega), pk_us, c2]
    have gk : ∀ k, k < 351 → G k = N k := fun k hk => by rw [hG]; dsimp only; rw [if_neg (by omega), pk_un (by omega)]
    have gs : ∀ k, 352 ≤ k → k < 526 → G k = N (k + 6) := fun k h1 h2 => by rw [hG]; dsimp only; rw [if_pos ⟨h1, h2⟩, pk_un (by omega)]
    obtain ⟨b1, b2⟩ := meets_b3e (N := G) (f := f) (s := 29) (y1 := y1) (y2 := y2) (y3 := y3) (y4 := y4) (y5 := y5) (by omega) g51
    refine ⟨by rw [OX10_meets]; exact ⟨fun _ => ⟨fun _ => ⟨sh1, by rw [sh2]; exact b1⟩, fun h => absurd c1 h⟩, fun h => absurd hf h⟩, _, by rw [FX10_meets, if_pos hf, if_pos c1, sh2, b2], ?_, ?_⟩
    · dsimp only
      refine ⟨?_, ?_, c + 1, by omega, pk_us, ?_, ?_⟩
      · rw [pk_un (by omega), pk_un (by omega), put6_out (by omega), gk 349 (by omega), h1]; rfl
      · rw [pk_us, gk 350 (by omega), h2, h4, nI_1]; exact pk_us.symm
      · rw [pk_un (by omega), pk_us, show min (c + 1) 30 = 30 by omega]
      · intro i j hi hj
        have hi : i < 30 := by omega
        rw [pk_un (by omega), pk_un (by omega), show c + 1 - min (c + 1) 30 + i = c - 29 + i by omega, gk 349 (by omega), h1]
        rcases Nat.lt_or_ge i 29 with q | q
        · have h7 := h6 (i + 1) j (by omega) hj
          rw [show c - 30 + (i + 1) = c - 29 + i by omega] at h7
          rw [put6_out (by omega), gs _ (by omega) (by omega), show 352 + 6 * i + j + 6 = 352 + 6 * (i + 1) + j by omega, h7, put6_out (by omega)]
        · have e : i = 29 := by omega
          subst e
          rw [show (c - 29 + 29) % 30 * 6 + j = 6 * (c % 30) + j by omega]
          exact put6_in (a := 352 + 6 * 29) hj
    · intro k hk
      rw [pk_un (by omega), pk_un (by omega), put6_out (by omega), gk k (by omega)]
