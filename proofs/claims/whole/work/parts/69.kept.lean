/-! PURE: keep and back, on both sides (GENERATED, wip/gen/p/69.py) -/
/-- what is kept -/
def RK (J : Nat) (joins kp : mF) (K : Nat → Nat → mF) (kp' kept : mF) (T : Nat) : Prop := ∀ k, k < 2 → K k 3 0 = 0 ∧ K k 13 0 = 1 ∧ kp' k = kp k ∧ (kp k = 0 ∨ kp k = 1) ∧ (¬ kp k = 0 → WI J joins (K k) (fun j => kept (532 * k + j)) T)
theorem RK_T {J T T' : Nat} {joins kp kp' kept : mF} {K : Nat → Nat → mF} (h : RK J joins kp K kp' kept T) (e : T ≤ T') : RK J joins kp K kp' kept T' := fun k hk => by
  obtain ⟨a, b, c, d, g⟩ := h k hk
  exact ⟨a, b, c, d, fun q => WI_T (g q) e⟩
section KPS
variable {W A B : Nat → mF} {joins n f hist kp kp' kept acts : mF} {K S : Nat → Nat → mF} {J T : Nat}
theorem c_keep {x : Int32} (h : RK J joins kp K kp' kept T) (hW : WI J joins W n T) (hA : A = K 0) (hB : B = K 1) : OX9_keep x (A 0) (A 1) (A 2) (A 4) (A 6) (A 7) (A 8) (A 9) (A 10) (A 11) (A 12) (A 14) (A 16) (A 17) (A 18) (A 19) (A 20) (A 21) (A 22) (B 0) (B 1) (B 2) (B 4) (B 6) (B 7) (B 8) (B 9) (B 10) (B 11) (B 12) (B 14) (B 16) (B 17) (B 18) (B 19) (B 20) (B 21) (B 22) (W 0) (W 1) (W 2) (W 4) (W 6) (W 7) (W 8) (W 9) (W 10) (W 11) (W 12) (W 14) (W 16) (W 17) (W 18) (W 19) (W 20) (W 21) (W 22) kp ∧ OX10_keep x f n kept kp' ∧ ∃ (r : Int32) (C D : Nat → mF) (kq f' kept' kq' : mF), FX9_keep x (A 0) (A 1) (A 2) (A 4) (A 6) (A 7) (A 8) (A 9) (A 10) (A 11) (A 12) (A 14) (A 16) (A 17) (A 18) (A 19) (A 20) (A 21) (A 22) (B 0) (B 1) (B 2) (B 4) (B 6) (B 7) (B 8) (B 9) (B 10) (B 11) (B 12) (B 14) (B 16) (B 17) (B 18) (B 19) (B 20) (B 21) (B 22) (W 0) (W 1) (W 2) (W 4) (W 6) (W 7) (W 8) (W 9) (W 10) (W 11) (W 12) (W 14) (W 16) (W 17) (W 18) (W 19) (W 20) (W 21) (W 22) kp = (r, C 0, C 1, C 2, C 4, C 6, C 7, C 8, C 9, C 10, C 11, C 12, C 14, C 16, C 17, C 18, C 19, C 20, C 21, C 22, D 0, D 1, D 2, D 4, D 6, D 7, D 8, D 9, D 10, D 11, D 12, D 14, D 16, D 17, D 18, D 19, D 20, D 21, D 22, kq) ∧ FX10_keep x f n kept kp' = (r, f', kept', kq') ∧ FE f f' ∧ RK J joins kq (fun k => if k = 0 then C else if k = 1 then D else K k) kq' kept' T := by
  have z10 : ¬ (1 : Int32) = 0 := by decide
  subst hA
  subst hB
  have oc0 := ocopy_e (U := K 0) hW.1
  have oc1 := ocopy_e (U := K 1) hW.1
  have ec0 : FX8_copy (K 0 0) (K 0 1) (K 0 2) (K 0 4) (K 0 6) (K 0 7) (K 0 8) (K 0 9) (K 0 10) (K 0 11) (K 0 12) (K 0 14) (K 0 16) (K 0 17) (K 0 18) (K 0 19) (K 0 20) (K 0 21) (K 0 22) (W 0) (W 1) (W 2) (W 4) (W 6) (W 7) (W 8) (W 9) (W 10) (W 11) (W 12) (W 14) (W 16) (W 17) (W 18) (W 19) (W 20) (W 21) (W 22) = tC (cW (K 0) W) := copy_e
  have ec1 : FX8_copy (K 1 0) (K 1 1) (K 1 2) (K 1 4) (K 1 6) (K 1 7) (K 1 8) (K 1 9) (K 1 10) (K 1 11) (K 1 12) (K 1 14) (K 1 16) (K 1 17) (K 1 18) (K 1 19) (K 1 20) (K 1 21) (K 1 22) (W 0) (W 1) (W 2) (W 4) (W 6) (W 7) (W 8) (W 9) (W 10) (W 11) (W 12) (W 14) (W 16) (W 17) (W 18) (W 19) (W 20) (W 21) (W 22) = tC (cW (K 1) W) := copy_e
  obtain ⟨a0, b0, c0, d0, g0⟩ := h 0 (by decide)
  obtain ⟨a1, b1, c1, d1, g1⟩ := h 1 (by decide)
  rcases bit_c x with hx | ⟨hx, hh⟩
  · have x0 : ¬ x < 0 := by rcases hx with rfl | rfl <;> decide
    have x2 : x < 2 := by rcases hx with rfl | rfl <;> decide
    have x10 : ¬ FX10_isIn x 0 1 = 0 := by rcases hx with rfl | rfl <;> decide
    have vx : vp_in x 2 := by rcases hx with rfl | rfl <;> first | exact vp02 | exact vp12
    have o9 : OX9_keep x (K 0 0) (K 0 1) (K 0 2) (K 0 4) (K 0 6) (K 0 7) (K 0 8) (K 0 9) (K 0 10) (K 0 11) (K 0 12) (K 0 14) (K 0 16) (K 0 17) (K 0 18) (K 0 19) (K 0 20) (K 0 21) (K 0 22) (K 1 0) (K 1 1) (K 1 2) (K 1 4) (K 1 6) (K 1 7) (K 1 8) (K 1 9) (K 1 10) (K 1 11) (K 1 12) (K 1 14) (K 1 16) (K 1 17) (K 1 18) (K 1 19) (K 1 20) (K 1 21) (K 1 22) (W 0) (W 1) (W 2) (W 4) (W 6) (W 7) (W 8) (W 9) (W 10) (W 11) (W 12) (W 14) (W 16) (W 17) (W 18) (W 19) (W 20) (W 21) (W 22) kp := ⟨fun q => absurd q x0, fun _ => ⟨fun _ => ⟨vx, fun _ => ⟨oc0, vx⟩, fun _ => ⟨oc1, vx⟩⟩, fun q => absurd x2 q⟩⟩
    rcases hx with rfl | rfl
    · obtain ⟨q1, q2⟩ := cp_kept (now := n) (x := 0) (u := 0) (by decide) nI_0.symm 532 0 10000 kept (by decide) (by decide)
      rw [nI_0] at q1 q2
      have cl : (0 : Int32).toNatClampNeg = 0 := by decide
      refine ⟨o9, ⟨fun q => absurd q x10, fun _ => ⟨q1, vx⟩⟩, 1, cW (K 0) W, K 1, upd kp 0 1, upd f 0 0, (fun k => if 532 * 0 + 0 ≤ k ∧ k < 532 * 0 + 532 then n (k - 532 * 0) else kept k), upd kp' 0 1, ?_, ?_, FE_0, ?_⟩
      · unfold FX9_keep
        rw [if_neg x0, if_pos x2, if_pos rfl, ec0, cl]
        rfl
      · unfold FX10_keep
        dsimp only
        rw [if_neg x10, q2, cl]
      · intro k hk
        rcases (show k = 0 ∨ k = 1 by omega) with rfl | rfl
        · refine ⟨a0, b0, by rw [pk_us, pk_us], Or.inr pk_us, fun _ => ?_⟩
          refine WI_n (WI_copy hW a0 b0) (fun k hk => ?_)
          show (if 532 * 0 + 0 ≤ 532 * 0 + k ∧ 532 * 0 + k < 532 * 0 + 532 then n (532 * 0 + k - 532 * 0) else kept (532 * 0 + k)) = n k
          rw [if_pos (by omega)]
          exact congrArg n (by omega)
        · refine ⟨a1, b1, by rw [pk_un (by decide), pk_un (by decide)]; exact c1, by rw [pk_un (by decide)]; exact d1, fun q => ?_⟩
          rw [pk_un (by decide)] at q
          refine WI_n (g1 q) (fun k hk => ?_)
          show (if 532 * 0 + 0 ≤ 532 * 1 + k ∧ 532 * 1 + k < 532 * 0 + 532 then n (532 * 1 + k - 532 * 0) else kept (532 * 1 + k)) = kept (532 * 1 + k)
          rw [if_neg (by omega)]
    · obtain ⟨q1, q2⟩ := cp_kept (now := n) (x := 1) (u := 1) (by decide) (by decide) 532 0 10000 kept (by decide) (by decide)
      rw [nI_0] at q1 q2
      have cl : (1 : Int32).toNatClampNeg = 1 := by decide
      refine ⟨o9, ⟨fun q => absurd q x10, fun _ => ⟨q1, vx⟩⟩, 1, K 0, cW (K 1) W, upd kp 1 1, upd f 0 0, (fun k => if 532 * 1 + 0 ≤ k ∧ k < 532 * 1 + 532 then n (k - 532 * 1) else kept k), upd kp' 1 1, ?_, ?_, FE_0, ?_⟩
      · unfold FX9_keep
        rw [if_neg x0, if_pos x2, if_neg z10, ec1, cl]
        rfl
      · unfold FX10_keep
        dsimp only
        rw [if_neg x10, q2, cl]
      · intro k hk
        rcases (show k = 0 ∨ k = 1 by omega) with rfl | rfl
        · refine ⟨a0, b0, by rw [pk_un (by decide), pk_un (by decide)]; exact c0, by rw [pk_un (by decide)]; exact d0, fun q => ?_⟩
          rw [pk_un (by decide)] at q
          refine WI_n (g0 q) (fun k hk => ?_)
          show (if 532 * 1 + 0 ≤ 532 * 0 + k ∧ 532 * 0 + k < 532 * 1 + 532 then n (532 * 0 + k - 532 * 1) else kept (532 * 0 + k)) = kept (532 * 0 + k)
          rw [if_neg (by omega)]
        · refine ⟨a1, b1, by rw [pk_us, pk_us], Or.inr pk_us, fun _ => ?_⟩
          refine WI_n (WI_copy hW a1 b1) (fun k hk => ?_)
          show (if 532 * 1 + 0 ≤ 532 * 1 + k ∧ 532 * 1 + k < 532 * 1 + 532 then n (532 * 1 + k - 532 * 1) else kept (532 * 1 + k)) = n k
          rw [if_pos (by omega)]
          exact congrArg n (by omega)
  · refine ⟨⟨fun _ => trivial, fun q => ⟨fun q2 => ?_, fun _ => trivial⟩⟩, ⟨fun _ => trivial, fun q => absurd hx q⟩, 0, K 0, K 1, kp, upd f 0 0, kept, kp', ?_, ?_, FE_0, ?_⟩
    · rcases hh with q3 | ⟨q3, q4, -⟩
      · exact absurd q3 q
      · exact absurd q2 q4
    · unfold FX9_keep
      rcases hh with q3 | ⟨q3, q4, -⟩
      · rw [if_pos q3]
      · rw [if_neg q3, if_neg q4]
    · unfold FX10_keep
      dsimp only
      rw [if_pos hx]
    · intro k hk
      rcases (show k = 0 ∨ k = 1 by omega) with rfl | rfl
      · exact ⟨a0, b0, c0, d0, g0⟩
      · exact ⟨a1, b1, c1, d1, g1⟩
theorem c_back {x : Int32} (h : RK J joins kp K kp' kept T) (hW : WI J joins W n T) (hR : RH J joins hist S f acts T) (hA : A = K 0) (hB : B = K 1) : OX9_back x (W 0) (W 1) (W 2) (W 4) (W 6) (W 7) (W 8) (W 9) (W 10) (W 11) (W 12) (W 14) (W 16) (W 17) (W 18) (W 19) (W 20) (W 21) (W 22) (A 0) (A 1) (A 2) (A 4) (A 6) (A 7) (A 8) (A 9) (A 10) (A 11) (A 12) (A 14) (A 16) (A 17) (A 18) (A 19) (A 20) (A 21) (A 22) (B 0) (B 1) (B 2) (B 4) (B 6) (B 7) (B 8) (B 9) (B 10) (B 11) (B 12) (B 14) (B 16) (B 17) (B 18) (B 19) (B 20) (B 21) (B 22) hist kp ∧ OX10_back x f n kept kp' ∧ ∃ (r : Int32) (C : Nat → mF) (hist' f' n' : mF), FX9_back x (W 0) (W 1) (W 2) (W 4) (W 6) (W 7) (W 8) (W 9) (W 10) (W 11) (W 12) (W 14) (W 16) (W 17) (W 18) (W 19) (W 20) (W 21) (W 22) (A 0) (A 1) (A 2) (A 4) (A 6) (A 7) (A 8) (A 9) (A 10) (A 11) (A 12) (A 14) (A 16) (A 17) (A 18) (A 19) (A 20) (A 21) (A 22) (B 0) (B 1) (B 2) (B 4) (B 6) (B 7) (B 8) (B 9) (B 10) (B 11) (B 12) (B 14) (B 16) (B 17) (B 18) (B 19) (B 20) (B 21) (B 22) hist kp = (r, C 0, C 1, C 2, C 4, C 6, C 7, C 8, C 9, C 10, C 11, C 12, C 14, C 16, C 17, C 18, C 19, C 20, C 21, C 22, hist') ∧ FX10_back x f n kept kp' = (r, f', n') ∧ FA f f' ∧ RH J joins hist' S f' acts T ∧ WI J joins C n' T ∧ C 3 = W 3 ∧ C 13 = W 13 ∧ C 5 = W 5 ∧ C 15 = W 15 := by
  have z10 : ¬ (1 : Int32) = 0 := by decide
  subst hA
  subst hB
  have hR0 : RH J joins hist S (upd f 0 0) acts T := RH_f hR (pk_un (by decide))
  have n9 : ∀ (P : Prop), P → P := fun _ h => h
  rcases bit_c x with hx | ⟨hx, hh⟩
  · obtain ⟨u, hu, eu⟩ : ∃ u : Nat, u < 2 ∧ x = nI u := by
      rcases hx with e | e
      · exact ⟨0, by decide, e.trans nI_0.symm⟩
      · exact ⟨1, by decide, e.trans (by decide)⟩
    have x0 : ¬ x < 0 := by rcases hx with rfl | rfl <;> decide
    have x2 : ¬ 2 ≤ x := by rcases hx with rfl | rfl <;> decide
    have x10 : ¬ FX10_isIn x 0 1 = 0 := by rcases hx with rfl | rfl <;> decide
    have vx : vp_in x 2 := by rcases hx with rfl | rfl <;> first | exact vp02 | exact vp12
    have cl : x.toNatClampNeg = u := by rw [eu]; exact nI_clamp (by omega)
    obtain ⟨a, b, c, d, g⟩ := h u hu
    by_cases k0 : kp u = 0
    · have k0' : kp' u = 0 := c.trans k0
      refine ⟨⟨fun q => absurd q x0, fun _ => ⟨fun q => absurd q x2, fun _ => ⟨vx, fun _ => trivial, fun q => ?_⟩⟩⟩, ⟨fun q => absurd q x10, fun _ => ⟨vx, fun _ => trivial, fun q => ?_⟩⟩, 0, W, hist, upd f 0 0, n, ?_, ?_, fun k a _ _ _ => pk_un a, hR0, hW, rfl, rfl, rfl, rfl⟩
      · rw [cl] at q
        exact absurd k0 q
      · rw [cl] at q
        exact absurd k0' q
      · unfold FX9_back
        rw [if_neg x0, if_neg x2, cl, if_pos k0]
      · unfold FX10_back
        dsimp only
        rw [if_neg x10, cl, if_pos k0']
    · have k0' : ¬ kp' u = 0 := by rw [c]; exact k0
      have hK := g k0
      have oc := ocopy_e (U := W) hK.1
      obtain ⟨q1, q2⟩ := cp_bk (kept := kept) hu eu 532 0 10000 n (by decide) (by decide)
      rw [nI_0] at q1 q2
      have hR' : RH J joins (upd hist 0 0) S (upd (upd f 0 0) 44 0) acts T := by
        obtain ⟨v, y, -, h2, -, h4, -, h6, -⟩ := hR
        exact ⟨0, y, by omega, h2, pk_us, (pk_un (by decide)).trans h4, pk_us, h6, fun j hj => absurd hj (Nat.not_lt_zero j)⟩
      have hN : WI J joins (cW W (K u)) (fun k => if 0 ≤ k ∧ k < 532 then kept (532 * u + k) else n k) T := WI_n (WI_copy hK hW.2.2.2.1 hW.2.2.2.2.1) (fun k hk => if_pos ⟨Nat.zero_le _, hk⟩)
      have o10 : OX10_back x f n kept kp' := ⟨fun q => absurd q x10, fun _ => ⟨vx, fun _ => trivial, fun _ => q1⟩⟩
      have t10 : FX10_back x f n kept kp' = (1, upd (upd f 0 0) 44 0, fun k => if 0 ≤ k ∧ k < 532 then kept (532 * u + k) else n k) := by
        unfold FX10_back
        dsimp only
        rw [if_neg x10, cl, if_neg k0', q2]
      rcases (show u = 0 ∨ u = 1 by omega) with rfl | rfl
      · have e0 : x = 0 := nI0 eu
        refine ⟨⟨fun q => absurd q x0, fun _ => ⟨fun q => absurd q x2, fun _ => ⟨vx, fun _ => trivial, fun _ => ⟨vx, fun _ => oc, fun q => absurd e0 q⟩⟩⟩⟩, o10, 1, cW W (K 0), upd hist 0 0, upd (upd f 0 0) 44 0, (fun k => if 0 ≤ k ∧ k < 532 then kept (532 * 0 + k) else n k), ?_, t10, fun k a b _ _ => (pk_un b).trans (pk_un a), hR', hN, rfl, rfl, rfl, rfl⟩
        unfold FX9_back
        rw [if_neg x0, if_neg x2, cl, if_neg k0, if_pos e0, show FX8_copy (W 0) (W 1) (W 2) (W 4) (W 6) (W 7) (W 8) (W 9) (W 10) (W 11) (W 12) (W 14) (W 16) (W 17) (W 18) (W 19) (W 20) (W 21) (W 22) (K 0 0) (K 0 1) (K 0 2) (K 0 4) (K 0 6) (K 0 7) (K 0 8) (K 0 9) (K 0 10) (K 0 11) (K 0 12) (K 0 14) (K 0 16) (K 0 17) (K 0 18) (K 0 19) (K 0 20) (K 0 21) (K 0 22) = tC (cW W (K 0)) from copy_e]
        rfl
      · have e0 : ¬ x = 0 := nI1 eu
        refine ⟨⟨fun q => absurd q x0, fun _ => ⟨fun q => absurd q x2, fun _ => ⟨vx, fun _ => trivial, fun _ => ⟨vx, fun q => absurd q e0, fun _ => oc⟩⟩⟩⟩, o10, 1, cW W (K 1), upd hist 0 0, upd (upd f 0 0) 44 0, (fun k => if 0 ≤ k ∧ k < 532 then kept (532 * 1 + k) else n k), ?_, t10, fun k a b _ _ => (pk_un b).trans (pk_un a), hR', hN, rfl, rfl, rfl, rfl⟩
        unfold FX9_back
        rw [if_neg x0, if_neg x2, cl, if_neg k0, if_neg e0, show FX8_copy (W 0) (W 1) (W 2) (W 4) (W 6) (W 7) (W 8) (W 9) (W 10) (W 11) (W 12) (W 14) (W 16) (W 17) (W 18) (W 19) (W 20) (W 21) (W 22) (K 1 0) (K 1 1) (K 1 2) (K 1 4) (K 1 6) (K 1 7) (K 1 8) (K 1 9) (K 1 10) (K 1 11) (K 1 12) (K 1 14) (K 1 16) (K 1 17) (K 1 18) (K 1 19) (K 1 20) (K 1 21) (K 1 22) = tC (cW W (K 1)) from copy_e]
        rfl
  · refine ⟨⟨fun _ => trivial, fun q => ⟨fun _ => trivial, fun q2 => ?_⟩⟩, ⟨fun _ => trivial, fun q => absurd hx q⟩, 0, W, hist, upd f 0 0, n, ?_, ?_, fun k a _ _ _ => pk_un a, hR0, hW, rfl, rfl, rfl, rfl⟩
    · rcases hh with q3 | ⟨q3, -, q4⟩
      · exact absurd q3 q
      · exact absurd q4 q2
    · unfold FX9_back
      rcases hh with q3 | ⟨q3, -, q4⟩
      · rw [if_pos q3]
      · rw [if_neg q3, if_pos q4]
    · unfold FX10_back
      dsimp only
      rw [if_pos hx]
end KPS
