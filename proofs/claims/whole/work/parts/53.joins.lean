/-! PURE: all joins of a pass (GENERATED, wip/gen/p/53.py) -/
theorem nI0 {x : Int32} (h : x = nI 0) : x = 0 := h.trans nI_0
theorem nI1 {x : Int32} (h : x = nI 1) : ¬ x = 0 := fun q => absurd (h.symm.trans q) (by decide)
theorem nI1' {x : Int32} (h : x = nI 1) : x = 1 := h.trans (by decide)
theorem jvp2 {x : Int32} {s : Nat} (hs : s < 2) (h : x = nI s) : vp_in x 2 := by
  rw [h]
  exact vp_in_nI hs (by decide)
section JAL
variable {x : Int32} {W : Nat → mF} {sndr slnk rcvr rlnk : mF} {s i r j : Nat}
theorem f_join (hs : s < 2) (hi : i < 2) (hr : r < 2) (hj : j < 2) (e1 : sndr x.toNatClampNeg = nI s) (e2 : slnk x.toNatClampNeg = nI i) (e3 : rcvr x.toNatClampNeg = nI r) (e4 : rlnk x.toNatClampNeg = nI j) : FX8_join x (W 1) (W 2) (W 4) (W 6) (W 7) (W 8) (W 9) (W 10) (W 11) (W 12) (W 14) (W 16) (W 17) (W 18) (W 19) (W 20) (W 21) (W 22) sndr slnk rcvr rlnk = jJ (nI s) (nI i) s r (11 + 10 * s + i) (11 + 10 * r + j) W := by
  rw [← e1, ← e2]
  rcases (show s = 0 ∨ s = 1 by omega) with rfl | rfl <;> rcases (show i = 0 ∨ i = 1 by omega) with rfl | rfl <;> rcases (show r = 0 ∨ r = 1 by omega) with rfl | rfl <;> rcases (show j = 0 ∨ j = 1 by omega) with rfl | rfl
  · exact f_join_0000 (nI0 e1) (nI0 e2) (nI0 e3) (nI0 e4)
  · exact f_join_0001 (nI0 e1) (nI0 e2) (nI0 e3) (nI1 e4)
  · exact f_join_0010 (nI0 e1) (nI0 e2) (nI1 e3) (nI0 e4)
  · exact f_join_0011 (nI0 e1) (nI0 e2) (nI1 e3) (nI1 e4)
  · exact f_join_0100 (nI0 e1) (nI1 e2) (nI0 e3) (nI0 e4)
  · exact f_join_0101 (nI0 e1) (nI1 e2) (nI0 e3) (nI1 e4)
  · exact f_join_0110 (nI0 e1) (nI1 e2) (nI1 e3) (nI0 e4)
  · exact f_join_0111 (nI0 e1) (nI1 e2) (nI1 e3) (nI1 e4)
  · exact f_join_1000 (nI1 e1) (nI0 e2) (nI0 e3) (nI0 e4)
  · exact f_join_1001 (nI1 e1) (nI0 e2) (nI0 e3) (nI1 e4)
  · exact f_join_1010 (nI1 e1) (nI0 e2) (nI1 e3) (nI0 e4)
  · exact f_join_1011 (nI1 e1) (nI0 e2) (nI1 e3) (nI1 e4)
  · exact f_join_1100 (nI1 e1) (nI1 e2) (nI0 e3) (nI0 e4)
  · exact f_join_1101 (nI1 e1) (nI1 e2) (nI0 e3) (nI1 e4)
  · exact f_join_1110 (nI1 e1) (nI1 e2) (nI1 e3) (nI0 e4)
  · exact f_join_1111 (nI1 e1) (nI1 e2) (nI1 e3) (nI1 e4)
theorem o_join (hv : vp_in x 4) (hs : s < 2) (hi : i < 2) (hr : r < 2) (hj : j < 2) (e1 : sndr x.toNatClampNeg = nI s) (e2 : slnk x.toNatClampNeg = nI i) (e3 : rcvr x.toNatClampNeg = nI r) (e4 : rlnk x.toNatClampNeg = nI j) (h : OjJ x (nI s) (nI i) s r (11 + 10 * s + i) (11 + 10 * r + j) W) : OX8_join x (W 1) (W 2) (W 4) (W 6) (W 7) (W 8) (W 9) (W 10) (W 11) (W 12) (W 14) (W 16) (W 17) (W 18) (W 19) (W 20) (W 21) (W 22) sndr slnk rcvr rlnk := by
  have v1 := jvp2 hs e1
  have v2 := jvp2 hi e2
  have v3 := jvp2 hr e3
  have v4 := jvp2 hj e4
  rw [← e1, ← e2] at h
  rcases (show s = 0 ∨ s = 1 by omega) with rfl | rfl <;> rcases (show i = 0 ∨ i = 1 by omega) with rfl | rfl <;> rcases (show r = 0 ∨ r = 1 by omega) with rfl | rfl <;> rcases (show j = 0 ∨ j = 1 by omega) with rfl | rfl
  · exact o_join_0000 hv v1 v2 v3 v4 (nI0 e1) (nI0 e2) (nI0 e3) (nI0 e4) h
  · exact o_join_0001 hv v1 v2 v3 v4 (nI0 e1) (nI0 e2) (nI0 e3) (nI1 e4) h
  · exact o_join_0010 hv v1 v2 v3 v4 (nI0 e1) (nI0 e2) (nI1 e3) (nI0 e4) h
  · exact o_join_0011 hv v1 v2 v3 v4 (nI0 e1) (nI0 e2) (nI1 e3) (nI1 e4) h
  · exact o_join_0100 hv v1 v2 v3 v4 (nI0 e1) (nI1 e2) (nI0 e3) (nI0 e4) h
  · exact o_join_0101 hv v1 v2 v3 v4 (nI0 e1) (nI1 e2) (nI0 e3) (nI1 e4) h
  · exact o_join_0110 hv v1 v2 v3 v4 (nI0 e1) (nI1 e2) (nI1 e3) (nI0 e4) h
  · exact o_join_0111 hv v1 v2 v3 v4 (nI0 e1) (nI1 e2) (nI1 e3) (nI1 e4) h
  · exact o_join_1000 hv v1 v2 v3 v4 (nI1 e1) (nI0 e2) (nI0 e3) (nI0 e4) h
  · exact o_join_1001 hv v1 v2 v3 v4 (nI1 e1) (nI0 e2) (nI0 e3) (nI1 e4) h
  · exact o_join_1010 hv v1 v2 v3 v4 (nI1 e1) (nI0 e2) (nI1 e3) (nI0 e4) h
  · exact o_join_1011 hv v1 v2 v3 v4 (nI1 e1) (nI0 e2) (nI1 e3) (nI1 e4) h
  · exact o_join_1100 hv v1 v2 v3 v4 (nI1 e1) (nI1 e2) (nI0 e3) (nI0 e4) h
  · exact o_join_1101 hv v1 v2 v3 v4 (nI1 e1) (nI1 e2) (nI0 e3) (nI1 e4) h
  · exact o_join_1110 hv v1 v2 v3 v4 (nI1 e1) (nI1 e2) (nI1 e3) (nI0 e4) h
  · exact o_join_1111 hv v1 v2 v3 v4 (nI1 e1) (nI1 e2) (nI1 e3) (nI1 e4) h
end JAL
/-- what a pass leans on: where a buffer is full, somebody sends -/
def RI (J : Nat) (joins : mF) (W : Nat → mF) : Prop := ∀ k s i r j, k < J → s < 2 → i < 2 → r < 2 → j < 2 → joins (2 * k) = nI (2 * s + i) → joins (2 * k + 1) = nI (2 * r + j) → W (11 + 10 * r + j) 7 = 1 → ¬ W (11 + 10 * s + i) 0 = -1
theorem nI_2 {s i s' i' : Nat} (hs : s < 2) (hi : i < 2) (hs' : s' < 2) (hi' : i' < 2) (h : nI (2 * s + i) = nI (2 * s' + i')) : s = s' ∧ i = i' := by
  have := (nI_eq (by omega) (by omega)).mp h
  omega
theorem RI_j {W W' : Nat → mF} {f f' n n' joins : mF} {J k s i r j T : Nat} (hI : RI J joins W) (hU : ∀ k k', k < J → k' < J → k ≠ k' → joins (2 * k) ≠ joins (2 * k') ∧ joins (2 * k + 1) ≠ joins (2 * k' + 1)) (hk : k < J) (hs : s < 2) (hi : i < 2) (hr : r < 2) (hj : j < 2) (e1 : joins (2 * k) = nI (2 * s + i)) (e2 : joins (2 * k + 1) = nI (2 * r + j)) (h : PJ W W' f f' n n' (11 + 10 * s + i) (11 + 10 * r + j) T) : RI J joins W' := by
  obtain ⟨-, -, -, -, -, h7, h0, hx⟩ := h
  intro k' s' i' r' j' hk' hs' hi' hr' hj' e1' e2'
  by_cases e : k' = k
  · subst e
    obtain ⟨rfl, rfl⟩ := nI_2 hs hi hs' hi' (e1.symm.trans e1')
    obtain ⟨rfl, rfl⟩ := nI_2 hr hj hr' hj' (e2.symm.trans e2')
    exact hx
  · obtain ⟨d1, d2⟩ := hU k' k hk' hk e
    rw [e1, e1'] at d1
    rw [e2, e2'] at d2
    have c1 : 11 + 10 * s' + i' ≠ 11 + 10 * s + i := fun q => d1 (by rw [show 2 * s' + i' = 2 * s + i by omega])
    have c2 : 11 + 10 * r' + j' ≠ 11 + 10 * r + j := fun q => d2 (by rw [show 2 * r' + j' = 2 * r + j by omega])
    rw [h7 _ (isLi_of hr' hj') c2, h0 _ (isLi_of hs' hi') c1]
    exact hI k' s' i' r' j' hk' hs' hi' hr' hj' e1' e2'
def tB (W : Nat → mF) : mF × mF × mF × mF × mF × mF × mF × mF × mF × mF × mF × mF × mF × mF × mF × mF × mF × mF := (W 1, W 2, W 4, W 6, W 7, W 8, W 9, W 10, W 11, W 12, W 14, W 16, W 17, W 18, W 19, W 20, W 21, W 22)
theorem l_joins {prg sndr slnk rcvr rlnk joins : mF} {J : Nat} (hJ : J ≤ 4) (hp : prg 7 = nI J) (hA : ∀ k, k < J → ∃ s i r j : Nat, s < 2 ∧ i < 2 ∧ r < 2 ∧ j < 2 ∧ sndr k = nI s ∧ slnk k = nI i ∧ rcvr k = nI r ∧ rlnk k = nI j ∧ joins (2 * k) = nI (2 * s + i) ∧ joins (2 * k + 1) = nI (2 * r + j)) (hU : ∀ k k', k < J → k' < J → k ≠ k' → joins (2 * k) ≠ joins (2 * k') ∧ joins (2 * k + 1) ≠ joins (2 * k' + 1)) : ∀ (m k fuel T : Nat) (W : Nat → mF) (f n : mF), k + m = J → m < fuel → RW2 W n → RD (W 1) (W 2) n T → T + m < 2 ^ 30 → f 46 = 0 → f 35 = nI J → RI J joins W → OX8_pass_b1 fuel (nI k) (W 1) (W 2) (W 4) (W 6) (W 7) (W 8) (W 9) (W 10) (W 11) (W 12) (W 14) (W 16) (W 17) (W 18) (W 19) (W 20) (W 21) (W 22) prg sndr slnk rcvr rlnk ∧ OX10_passes_b1 fuel (nI k) f joins n ∧ ∃ W' f' n', FX8_pass_b1 fuel (nI k) (W 1) (W 2) (W 4) (W 6) (W 7) (W 8) (W 9) (W 10) (W 11) (W 12) (W 14) (W 16) (W 17) (W 18) (W 19) (W 20) (W 21) (W 22) prg sndr slnk rcvr rlnk = tB W' ∧ FX10_passes_b1 fuel (nI k) f joins n = (f', n') ∧ RW2 W' n' ∧ RD (W' 1) (W' 2) n' (T + m) ∧ n' 348 = n 348 ∧ (∀ k, k ≠ 45 → f' k = f k) ∧ (∀ c, isKp c → W' c = W c) ∧ RI J joins W' := by
  intro m
  induction m with
  | zero =>
    intro k fuel T W f n hk hf hR hD hT h46 h35 hI
    obtain ⟨fuel, rfl⟩ : ∃ q, fuel = q + 1 := ⟨fuel - 1, by omega⟩
    have e : k = J := by omega
    subst e
    have c1 : prg 7 ≤ nI k := by rw [hp]; exact nI_le (Nat.le_refl _) (by omega)
    have c2 : f 35 ≤ nI k := by rw [h35]; exact nI_le (Nat.le_refl _) (by omega)
    refine ⟨⟨fun _ => trivial, fun q => absurd c1 q⟩, ⟨fun _ => trivial, fun q => absurd c2 q⟩, W, f, n, if_pos c1, if_pos c2, hR, hD, rfl, fun _ _ => rfl, fun _ _ => rfl, hI⟩
  | succ m ih =>
    intro k fuel T W f n hk hf hR hD hT h46 h35 hI
    obtain ⟨fuel, rfl⟩ : ∃ q, fuel = q + 1 := ⟨fuel - 1, by omega⟩
    have hkJ : k < J := by omega
    have c1 : ¬ prg 7 ≤ nI k := by rw [hp]; exact nI_ge hkJ (by omega)
    have c2 : ¬ f 35 ≤ nI k := by rw [h35]; exact nI_ge hkJ (by omega)
    obtain ⟨s, i, r, j, hs, hi, hr, hj, a1, a2, a3, a4, e1, e2⟩ := hA k hkJ
    have hcl : (nI k).toNatClampNeg = k := nI_clamp (by omega)
    have hv : vp_in (nI k) 4 := vp_in_nI (by omega) (by decide)
    obtain ⟨b1, b2, W1, f1, n1, b3, b4, b5⟩ := p_jn (f := f) hv (show k < 4 by omega) h46 hs hi hr hj e1 e2 hR hD (by omega) (hI k s i r j hkJ hs hi hr hj e1 e2)
    have hI1 := RI_j hI hU hkJ hs hi hr hj e1 e2 b5
    obtain ⟨d1, d2, d3, d4, d5, -⟩ := b5
    obtain ⟨g1, g2, W', f', n', g3, g4, g5, g6, g7, g8, g9, g10⟩ := ih (k + 1) fuel (T + 1) W1 f1 n1 (by omega) (by omega) d1 d2 (by omega) ((d4 46 (by decide)).trans h46) ((d4 35 (by decide)).trans h35) hI1
    have fj := (f_join (x := nI k) (W := W) (sndr := sndr) (slnk := slnk) (rcvr := rcvr) (rlnk := rlnk) hs hi hr hj (by rw [hcl]; exact a1) (by rw [hcl]; exact a2) (by rw [hcl]; exact a3) (by rw [hcl]; exact a4)).trans b3
    have oj := o_join (x := nI k) (W := W) (sndr := sndr) (slnk := slnk) (rcvr := rcvr) (rlnk := rlnk) hv hs hi hr hj (by rw [hcl]; exact a1) (by rw [hcl]; exact a2) (by rw [hcl]; exact a3) (by rw [hcl]; exact a4) b1
    refine ⟨⟨fun q => absurd q c1, fun _ => ⟨oj, ?_⟩⟩, ⟨fun q => absurd q c2, fun _ => ⟨b2, ?_⟩⟩, W', f', n', (if_neg c1).trans ?_, (if_neg c2).trans ?_, g5, by rw [show T + (m + 1) = T + 1 + m by omega]; exact g6, g7.trans d3, fun k hk => (g8 k hk).trans (d4 k hk), fun c hc => (g9 c hc).trans (d5 c hc), g10⟩
    · rw [fj, nI_1]
      exact g1
    · rw [b4, nI_1]
      exact g2
    · rw [fj, nI_1]
      exact g3
    · rw [b4, nI_1]
      exact g4
