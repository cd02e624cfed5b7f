/-! PURE: slices whole; what is remembered (GENERATED, wip/gen/p/66.py) -/
section SLV
variable {W X : Nat → mF} {prg op num sndr slnk rcvr rlnk f fop farg joins n a as d fnd fnd' : mF} {J T : Nat}
theorem c_slices {x y z : Int32} (hW : WI J joins W n T) (hT : T + 1800 < 2 ^ 30) (hC : PC J prg op num sndr slnk rcvr rlnk f fop farg joins) (u3 : X 3 0 = 0) (u13 : X 13 0 = 1) : OX9_slices x y z (X 0) (X 1) (X 2) (X 3) (X 4) (X 5) (X 6) (X 7) (X 8) (X 9) (X 10) (X 11) (X 12) (X 13) (X 14) (X 15) (X 16) (X 17) (X 18) (X 19) (X 20) (X 21) (X 22) (W 0) (W 1) (W 2) (W 4) (W 6) (W 7) (W 8) (W 9) (W 10) (W 11) (W 12) (W 14) (W 16) (W 17) (W 18) (W 19) (W 20) (W 21) (W 22) prg op num sndr slnk rcvr rlnk fnd ∧ OX10_slices x y z f fop farg joins n a as d fnd' ∧ ∃ (v : Int32) (Y : Nat → mF) (g f' n' a' as' d' g' : mF), FX9_slices x y z (X 0) (X 1) (X 2) (X 3) (X 4) (X 5) (X 6) (X 7) (X 8) (X 9) (X 10) (X 11) (X 12) (X 13) (X 14) (X 15) (X 16) (X 17) (X 18) (X 19) (X 20) (X 21) (X 22) (W 0) (W 1) (W 2) (W 4) (W 6) (W 7) (W 8) (W 9) (W 10) (W 11) (W 12) (W 14) (W 16) (W 17) (W 18) (W 19) (W 20) (W 21) (W 22) prg op num sndr slnk rcvr rlnk fnd = (v, Y 0, Y 1, Y 2, Y 3, Y 4, Y 5, Y 6, Y 7, Y 8, Y 9, Y 10, Y 11, Y 12, Y 13, Y 14, Y 15, Y 16, Y 17, Y 18, Y 19, Y 20, Y 21, Y 22, g) ∧ FX10_slices x y z f fop farg joins n a as d fnd' = (v, f', n', a', as', d', g') ∧ Y 3 0 = 0 ∧ Y 13 0 = 1 ∧ FE f f' ∧ ∀ k, k < 532 → n' k = n k := by
  have z10 : ¬ (1 : Int32) = 0 := by decide
  rcases mach_c x with hx | ⟨h10, h9⟩
  · obtain ⟨mm, hm, ex, m9, m10⟩ := mach_n hx
    rcases place_c y with ⟨p9, p10, p, hp, ey⟩ | ⟨p9, p10⟩
    · have p9' : ¬ FX9_isPlace y = 0 := fun e => z10 (p9.symm.trans e)
      have p10' : ¬ FX10_isPlace y = 0 := fun e => z10 (p10.symm.trans e)
      rcases inC (C := 200) (by decide) z with ⟨M, hM, ez, t1, t2, hz⟩ | ⟨hz, h⟩
      · have hz : ¬ FX10_isIn z 0 200 = 0 := fun e => z10 (hz.symm.trans e)
        have t3 : z ≤ (200 : Int32) := Int32.not_lt.mp t2
        have hC0 : PC J prg op num sndr slnk rcvr rlnk (upd f 0 0) fop farg joins := PC_f hC (pk_un (by decide)) (pk_un (by decide))
        obtain ⟨s1, as1, s2, s3⟩ := p_aside (n := n) (as := as)
        obtain ⟨l1, l2, v, Y, g, f', n', a', d', g', l3, l4, l5, l6, l7, l8⟩ := l_slices (T := T) hM ez hm ex hp ey (by omega) 16 1 10000 0 X (upd f 0 0) n a as1 d fnd fnd' (by decide) (by decide) (by decide) hW hC0 u3 u13 s3 (fun k hk => absurd hk (Nat.not_lt_zero k))
        rw [nI_0] at l1 l2 l3 l4
        have l1 : OX9_slices_b3 10000 x y z 0 1 (X 0) (X 1) (X 2) (X 3) (X 4) (X 5) (X 6) (X 7) (X 8) (X 9) (X 10) (X 11) (X 12) (X 13) (X 14) (X 15) (X 16) (X 17) (X 18) (X 19) (X 20) (X 21) (X 22) (W 0) (W 1) (W 2) (W 4) (W 6) (W 7) (W 8) (W 9) (W 10) (W 11) (W 12) (W 14) (W 16) (W 17) (W 18) (W 19) (W 20) (W 21) (W 22) prg op num sndr slnk rcvr rlnk fnd := l1
        have l2 : OX10_slices_b3 10000 x y z 0 1 (upd f 0 0) fop farg joins n a as1 d fnd' := l2
        have l3 : FX9_slices_b3 10000 x y z 0 1 (X 0) (X 1) (X 2) (X 3) (X 4) (X 5) (X 6) (X 7) (X 8) (X 9) (X 10) (X 11) (X 12) (X 13) (X 14) (X 15) (X 16) (X 17) (X 18) (X 19) (X 20) (X 21) (X 22) (W 0) (W 1) (W 2) (W 4) (W 6) (W 7) (W 8) (W 9) (W 10) (W 11) (W 12) (W 14) (W 16) (W 17) (W 18) (W 19) (W 20) (W 21) (W 22) prg op num sndr slnk rcvr rlnk fnd = _ := l3
        have l4 : FX10_slices_b3 10000 x y z 0 1 (upd f 0 0) fop farg joins n a as1 d fnd' = _ := l4
        refine ⟨⟨fun q => absurd q m9, fun _ => ⟨fun q => absurd q p9', fun _ => ⟨fun q => absurd q t1, fun _ => ⟨fun _ => l1, fun q => absurd t3 q⟩⟩⟩⟩, ?_, v, Y, g, f', n', a', as1, d', g', ?_, ?_, l5, l6, FE_t FE_0 l7, l8⟩
        · unfold OX10_slices
          rw [s2]
          exact ⟨omach x, fun q => absurd q m10, fun _ => ⟨fun q => absurd q p10', fun _ => ⟨fun q => absurd q hz, fun _ => ⟨s1, l2⟩⟩⟩⟩
        · unfold FX9_slices
          rw [if_neg m9, if_neg p9', if_neg t1, if_pos t3, l3]
        · unfold FX10_slices
          rw [s2]
          dsimp only
          rw [if_neg m10, if_neg p10', if_neg hz, l4]
      · have hz : FX10_isIn z 0 200 = 0 := hz
        have h : z < 0 ∨ (¬ z < 0 ∧ ¬ z ≤ (200 : Int32)) := by
          rcases h with h | ⟨h1, h2⟩
          · exact Or.inl h
          · exact Or.inr ⟨h1, Int32.not_le.mpr h2⟩
        refine ⟨⟨fun q => absurd q m9, fun _ => ⟨fun q => absurd q p9', fun _ => ⟨fun _ => trivial, fun q => ⟨fun q2 => ?_, fun _ => trivial⟩⟩⟩⟩, ⟨omach x, fun q => absurd q m10, fun _ => ⟨fun q => absurd q p10', fun _ => ⟨fun _ => trivial, fun q => absurd hz q⟩⟩⟩, -1, X, fnd, upd f 0 0, n, a, as, d, fnd', ?_, ?_, u3, u13, FE_0, fun _ _ => rfl⟩
        · rcases h with h | ⟨h1, h2⟩
          · exact absurd h q
          · exact absurd q2 h2
        · unfold FX9_slices
          rw [if_neg m9, if_neg p9']
          rcases h with h | ⟨h1, h2⟩
          · rw [if_pos h]
          · rw [if_neg h1, if_neg h2]
        · unfold FX10_slices
          dsimp only
          rw [if_neg m10, if_neg p10', if_pos hz]
    · refine ⟨⟨fun q => absurd q m9, fun _ => ⟨fun _ => trivial, fun q => absurd p9 q⟩⟩, ⟨omach x, fun q => absurd q m10, fun _ => ⟨fun _ => trivial, fun q => absurd p10 q⟩⟩, -1, X, fnd, upd f 0 0, n, a, as, d, fnd', ?_, ?_, u3, u13, FE_0, fun _ _ => rfl⟩
      · unfold FX9_slices
        rw [if_neg m9, if_pos p9]
      · unfold FX10_slices
        dsimp only
        rw [if_neg m10, if_pos p10]
  · refine ⟨⟨fun _ => trivial, fun q => absurd h9 q⟩, ⟨omach x, fun _ => trivial, fun q => absurd h10 q⟩, -1, X, fnd, upd f 0 0, n, a, as, d, fnd', ?_, ?_, u3, u13, FE_0, fun _ _ => rfl⟩
    · unfold FX9_slices
      rw [if_pos h9]
    · unfold FX10_slices
      dsimp only
      rw [if_pos h10]
end SLV
/-- what an ACT leaves of the model's numbers -/
def FA (f f' : mF) : Prop := ∀ k, k ≠ 0 → k ≠ 44 → k ≠ 45 → k ≠ 46 → f' k = f k
theorem FA_t {f g k : mF} (h : FA f g) (h2 : FA g k) : FA f k := fun j a b c d => (h2 j a b c d).trans (h j a b c d)
theorem FE_A {f g : mF} (h : FE f g) : FA f g := fun j a _ c d => h j a c d
/-- what is remembered of the latest ACTS, on both sides -/
def RH (J : Nat) (joins hist : mF) (S : Nat → Nat → mF) (f acts : mF) (T : Nat) : Prop := ∃ u x : Nat, u ≤ 8 ∧ x < 8 ∧ hist 0 = nI u ∧ hist 1 = nI x ∧ f 44 = nI u ∧ (∀ j, j < 8 → S j 3 0 = 0 ∧ S j 13 0 = 1) ∧ ∀ j, j < u → WI J joins (S ((x + 8 - u + j) % 8)) (fun k => acts (532 * j + k)) T
def uS (S : Nat → Nat → mF) (i : Nat) (C : Nat → mF) : Nat → Nat → mF := fun j => if j = i then C else S j
theorem uS_s {S : Nat → Nat → mF} {i : Nat} {C : Nat → mF} : uS S i C i = C := if_pos rfl
theorem uS_n {S : Nat → Nat → mF} {i j : Nat} {C : Nat → mF} (h : j ≠ i) : uS S i C j = S j := if_neg h
theorem uS_r {S : Nat → Nat → mF} {i : Nat} : uS S i (S i) = S := by
  funext j
  unfold uS
  split
  · rename_i e
    rw [e]
  · rfl
theorem RH_f {J T : Nat} {joins hist f f' acts : mF} {S : Nat → Nat → mF} (h : RH J joins hist S f acts T) (e : f' 44 = f 44) : RH J joins hist S f' acts T := by
  obtain ⟨u, x, h1, h2, h3, h4, h5, h6⟩ := h
  exact ⟨u, x, h1, h2, h3, h4, e.trans h5, h6⟩
theorem RH_T {J T T' : Nat} {joins hist f acts : mF} {S : Nat → Nat → mF} (h : RH J joins hist S f acts T) (e : T ≤ T') : RH J joins hist S f acts T' := by
  obtain ⟨u, x, h1, h2, h3, h4, h5, h6, h7⟩ := h
  exact ⟨u, x, h1, h2, h3, h4, h5, h6, fun j hj => WI_T (h7 j hj) e⟩
def hK (hist : mF) : mF := upd (upd hist 1 (hist 1 + 1 - (hist 1 + 1) / 8 * 8)) 0 (if 8 < hist 0 + 1 then 8 else hist 0 + 1)
section RMB
variable {W Z : Nat → mF} {joins n f acts hist : mF} {S : Nat → Nat → mF} {J T : Nat}
theorem rem_e {nx : Int32} : FX1_remember nx (Z 0) (Z 1) (Z 2) (Z 4) (Z 6) (Z 7) (Z 8) (Z 9) (Z 10) (Z 11) (Z 12) (Z 14) (Z 16) (Z 17) (Z 18) (Z 19) (Z 20) (Z 21) (Z 22) (W 0) (W 1) (W 2) (W 4) (W 6) (W 7) (W 8) (W 9) (W 10) (W 11) (W 12) (W 14) (W 16) (W 17) (W 18) (W 19) (W 20) (W 21) (W 22) hist = (0, cW Z W 0, cW Z W 1, cW Z W 2, cW Z W 4, cW Z W 6, cW Z W 7, cW Z W 8, cW Z W 9, cW Z W 10, cW Z W 11, cW Z W 12, cW Z W 14, cW Z W 16, cW Z W 17, cW Z W 18, cW Z W 19, cW Z W 20, cW Z W 21, cW Z W 22, hK hist) := rfl
theorem p_keep (h : RH J joins hist S f acts T) (hW : WI J joins W n T) : ∃ i : Nat, i < 8 ∧ hist 1 = nI i ∧ OX1_remember (hist 1) (S i 0) (S i 1) (S i 2) (S i 4) (S i 6) (S i 7) (S i 8) (S i 9) (S i 10) (S i 11) (S i 12) (S i 14) (S i 16) (S i 17) (S i 18) (S i 19) (S i 20) (S i 21) (S i 22) (W 0) (W 1) (W 2) (W 4) (W 6) (W 7) (W 8) (W 9) (W 10) (W 11) (W 12) (W 14) (W 16) (W 17) (W 18) (W 19) (W 20) (W 21) (W 22) hist ∧ OX10_keepsAct f n acts ∧ ∃ f' acts', FX10_keepsAct f n acts = (0, f', acts') ∧ (∀ k, k ≠ 44 → f' k = f k) ∧ RH J joins (hK hist) (uS S i (cW (S i) W)) f' acts' T := by
  obtain ⟨u, x, hu, hx, h0, h1, h44, hS, hA⟩ := h
  have e1 : ∀ x, x < 8 → nI x + 1 - (nI x + 1) / 8 * 8 = nI ((x + 1) % 8) := by decide +kernel
  have e2 : ∀ u, u < 9 → (if 8 < nI u + 1 then (8 : Int32) else nI u + 1) = nI (min (u + 1) 8) := by decide +kernel
  have k0 : hK hist 0 = nI (min (u + 1) 8) := by
    unfold hK
    rw [pk_us, h0]
    exact e2 u (by omega)
  have k1 : hK hist 1 = nI ((x + 1) % 8) := by
    unfold hK
    rw [pk_un (by decide), pk_us, h1]
    exact e1 x hx
  have hC : WI J joins (cW (S x) W) n T := WI_copy hW (hS x hx).1 (hS x hx).2
  have hS' : ∀ j, j < 8 → uS S x (cW (S x) W) j 3 0 = 0 ∧ uS S x (cW (S x) W) j 13 0 = 1 := by
    intro j hj
    by_cases e : j = x
    · rw [e, uS_s]
      exact ⟨hC.2.2.2.1, hC.2.2.2.2.1⟩
    · rw [uS_n e]
      exact hS j hj
  have or : OX1_remember (hist 1) (S x 0) (S x 1) (S x 2) (S x 4) (S x 6) (S x 7) (S x 8) (S x 9) (S x 10) (S x 11) (S x 12) (S x 14) (S x 16) (S x 17) (S x 18) (S x 19) (S x 20) (S x 21) (S x 22) (W 0) (W 1) (W 2) (W 4) (W 6) (W 7) (W 8) (W 9) (W 10) (W 11) (W 12) (W 14) (W 16) (W 17) (W 18) (W 19) (W 20) (W 21) (W 22) hist := ⟨rfl, by rw [h1]; exact vp_in_nI hx (by decide), ocopy_e (U := S x) hW.1⟩
  rcases Nat.lt_or_ge u 8 with q | q
  · have c : ¬ f 44 = 8 := by
      rw [h44]
      intro e
      have := (nI_eq (b := 8) (by omega) (by decide)).mp e
      omega
    obtain ⟨q1, q2⟩ := cp_keep (this := f) (now := n) q h44 532 0 10000 acts (by decide) (by decide)
    rw [nI_0] at q1 q2
    refine ⟨x, hx, h1, or, ⟨fun z => absurd z c, fun _ => q1⟩, upd f 44 (f 44 + 1), (fun k => if 532 * u + 0 ≤ k ∧ k < 532 * u + 532 then n (k - 532 * u) else acts k), ?_, fun k hk => pk_un hk, ?_⟩
    · unfold FX10_keepsAct
      rw [if_neg c, q2]
    · refine ⟨u + 1, (x + 1) % 8, by omega, Nat.mod_lt _ (by decide), k0.trans (by rw [Nat.min_eq_left (by omega)]), k1, ?_, hS', fun j hj => ?_⟩
      · rw [pk_us, h44, nI_1]
      · by_cases e : j = u
        · subst e
          have ei : ((x + 1) % 8 + 8 - (j + 1) + j) % 8 = x := by omega
          rw [ei, uS_s]
          refine WI_n hC (fun k hk => ?_)
          show (if 532 * j + 0 ≤ 532 * j + k ∧ 532 * j + k < 532 * j + 532 then n (532 * j + k - 532 * j) else acts (532 * j + k)) = n k
          rw [if_pos (by omega)]
          exact congrArg n (by omega)
        · have ei : ((x + 1) % 8 + 8 - (u + 1) + j) % 8 = (x + 8 - u + j) % 8 := by omega
          have en : (x + 8 - u + j) % 8 ≠ x := by omega
          rw [ei, uS_n en]
          refine WI_n (hA j (by omega)) (fun k hk => ?_)
          show (if 532 * u + 0 ≤ 532 * j + k ∧ 532 * j + k < 532 * u + 532 then n (532 * j + k - 532 * u) else acts (532 * j + k)) = acts (532 * j + k)
          rw [if_neg (by omega)]
  · have u8 : u = 8 := by omega
    subst u8
    have c : f 44 = 8 := h44
    have c7 : upd f 44 (f 44 - 1) 44 = nI 7 := by
      rw [pk_us, c]
      decide
    obtain ⟨q1, q2⟩ := cp_shift c7 3724 0 10000 acts (by decide) (by decide)
    obtain ⟨A, eA⟩ : ∃ A, A = fun k => if 0 ≤ k ∧ k < 3724 then acts (k + 532) else acts k := ⟨_, rfl⟩
    obtain ⟨r1, r2⟩ := cp_keep (now := n) (show 7 < 8 by decide) c7 532 0 10000 A (by decide) (by decide)
    rw [nI_0] at q1 q2 r1 r2
    rw [← eA] at q2
    refine ⟨x, hx, h1, or, ⟨fun _ => ⟨q1, ?_⟩, fun z => absurd c z⟩, upd (upd f 44 (f 44 - 1)) 44 (f 44 - 1 + 1), (fun k => if 532 * 7 + 0 ≤ k ∧ k < 532 * 7 + 532 then n (k - 532 * 7) else A k), ?_, fun k hk => (pk_un hk).trans (pk_un hk), ?_⟩
    · rw [q2]
      exact r1
    · unfold FX10_keepsAct
      rw [if_pos c, q2]
      dsimp only
      rw [r2]
    · refine ⟨8, (x + 1) % 8, by omega, Nat.mod_lt _ (by decide), k0, k1, ?_, hS', fun j hj => ?_⟩
      · rw [pk_us, c]
        decide
      · by_cases e : j = 7
        · subst e
          have ei : ((x + 1) % 8 + 8 - 8 + 7) % 8 = x := by omega
          rw [ei, uS_s]
          refine WI_n hC (fun k hk => ?_)
          show (if 532 * 7 + 0 ≤ 532 * 7 + k ∧ 532 * 7 + k < 532 * 7 + 532 then n (532 * 7 + k - 532 * 7) else A (532 * 7 + k)) = n k
          rw [if_pos (by omega)]
          exact congrArg n (by omega)
        · have ei : ((x + 1) % 8 + 8 - 8 + j) % 8 = (x + 8 - 8 + (j + 1)) % 8 := by omega
          have en : (x + 8 - 8 + (j + 1)) % 8 ≠ x := by omega
          rw [ei, uS_n en]
          refine WI_n (hA (j + 1) (by omega)) (fun k hk => ?_)
          show (if 532 * 7 + 0 ≤ 532 * j + k ∧ 532 * j + k < 532 * 7 + 532 then n (532 * j + k - 532 * 7) else A (532 * j + k)) = acts (532 * (j + 1) + k)
          rw [if_neg (by omega), eA]
          show (if 0 ≤ 532 * j + k ∧ 532 * j + k < 3724 then acts (532 * j + k + 532) else acts (532 * j + k)) = acts (532 * (j + 1) + k)
          rw [if_pos (by omega)]
          exact congrArg acts (by omega)
end RMB
