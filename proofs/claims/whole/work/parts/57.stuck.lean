/-! PURE: whether all is stuck (GENERATED, wip/gen/p/57.py) -/
/-- whether a join would move a word, on a world of rows -/
def wm (s r O N : Nat) (W : Nat → mF) : Int32 :=
  let a := FX2_hasToSend (W O); if a = 0 then (let h := FX3_isHalted (W (4 + 10 * s)); if h = 0 then (let h2 := FX3_isHalted (W (4 + 10 * r)); if h2 = 0 then (let c := FX2_canReceive (W N); if c = 0 then 0 else 1) else 0) else 0) else (if W N 7 = 0 then (let h := FX3_isHalted (W (4 + 10 * s)); if h = 0 then (let h2 := FX3_isHalted (W (4 + 10 * r)); if h2 = 0 then 1 else 0) else 0) else (let h := FX3_isHalted (W (4 + 10 * s)); if h = 0 then (let h2 := FX3_isHalted (W (4 + 10 * r)); if h2 = 0 then (let c := FX2_canReceive (W N); if c = 0 then 0 else 1) else 0) else 0))
section WMS
variable {x : Int32} {W : Nat → mF} {sndr slnk rcvr rlnk : mF}
theorem f_wm_0000 (e1 : sndr x.toNatClampNeg = 0) (e2 : slnk x.toNatClampNeg = 0) (e3 : rcvr x.toNatClampNeg = 0) (e4 : rlnk x.toNatClampNeg = 0) : FX8_wouldMove x (W 4) (W 11) (W 12) (W 14) (W 21) (W 22) sndr slnk rcvr rlnk = wm 0 0 11 11 W := (if_pos e1).trans ((if_pos e3).trans ((if_pos e4).trans (if_pos e2)))
theorem f_wm_0001 (e1 : sndr x.toNatClampNeg = 0) (e2 : slnk x.toNatClampNeg = 0) (e3 : rcvr x.toNatClampNeg = 0) (e4 : ¬ rlnk x.toNatClampNeg = 0) : FX8_wouldMove x (W 4) (W 11) (W 12) (W 14) (W 21) (W 22) sndr slnk rcvr rlnk = wm 0 0 11 12 W := (if_pos e1).trans ((if_pos e3).trans ((if_neg e4).trans (if_pos e2)))
theorem f_wm_0010 (e1 : sndr x.toNatClampNeg = 0) (e2 : slnk x.toNatClampNeg = 0) (e3 : ¬ rcvr x.toNatClampNeg = 0) (e4 : rlnk x.toNatClampNeg = 0) : FX8_wouldMove x (W 4) (W 11) (W 12) (W 14) (W 21) (W 22) sndr slnk rcvr rlnk = wm 0 1 11 21 W := (if_pos e1).trans ((if_neg e3).trans ((if_pos e4).trans (if_pos e2)))
theorem f_wm_0011 (e1 : sndr x.toNatClampNeg = 0) (e2 : slnk x.toNatClampNeg = 0) (e3 : ¬ rcvr x.toNatClampNeg = 0) (e4 : ¬ rlnk x.toNatClampNeg = 0) : FX8_wouldMove x (W 4) (W 11) (W 12) (W 14) (W 21) (W 22) sndr slnk rcvr rlnk = wm 0 1 11 22 W := (if_pos e1).trans ((if_neg e3).trans ((if_neg e4).trans (if_pos e2)))
theorem f_wm_0100 (e1 : sndr x.toNatClampNeg = 0) (e2 : ¬ slnk x.toNatClampNeg = 0) (e3 : rcvr x.toNatClampNeg = 0) (e4 : rlnk x.toNatClampNeg = 0) : FX8_wouldMove x (W 4) (W 11) (W 12) (W 14) (W 21) (W 22) sndr slnk rcvr rlnk = wm 0 0 12 11 W := (if_pos e1).trans ((if_pos e3).trans ((if_pos e4).trans (if_neg e2)))
theorem f_wm_0101 (e1 : sndr x.toNatClampNeg = 0) (e2 : ¬ slnk x.toNatClampNeg = 0) (e3 : rcvr x.toNatClampNeg = 0) (e4 : ¬ rlnk x.toNatClampNeg = 0) : FX8_wouldMove x (W 4) (W 11) (W 12) (W 14) (W 21) (W 22) sndr slnk rcvr rlnk = wm 0 0 12 12 W := (if_pos e1).trans ((if_pos e3).trans ((if_neg e4).trans (if_neg e2)))
theorem f_wm_0110 (e1 : sndr x.toNatClampNeg = 0) (e2 : ¬ slnk x.toNatClampNeg = 0) (e3 : ¬ rcvr x.toNatClampNeg = 0) (e4 : rlnk x.toNatClampNeg = 0) : FX8_wouldMove x (W 4) (W 11) (W 12) (W 14) (W 21) (W 22) sndr slnk rcvr rlnk = wm 0 1 12 21 W := (if_pos e1).trans ((if_neg e3).trans ((if_pos e4).trans (if_neg e2)))
theorem f_wm_0111 (e1 : sndr x.toNatClampNeg = 0) (e2 : ¬ slnk x.toNatClampNeg = 0) (e3 : ¬ rcvr x.toNatClampNeg = 0) (e4 : ¬ rlnk x.toNatClampNeg = 0) : FX8_wouldMove x (W 4) (W 11) (W 12) (W 14) (W 21) (W 22) sndr slnk rcvr rlnk = wm 0 1 12 22 W := (if_pos e1).trans ((if_neg e3).trans ((if_neg e4).trans (if_neg e2)))
theorem f_wm_1000 (e1 : ¬ sndr x.toNatClampNeg = 0) (e2 : slnk x.toNatClampNeg = 0) (e3 : rcvr x.toNatClampNeg = 0) (e4 : rlnk x.toNatClampNeg = 0) : FX8_wouldMove x (W 4) (W 11) (W 12) (W 14) (W 21) (W 22) sndr slnk rcvr rlnk = wm 1 0 21 11 W := (if_neg e1).trans ((if_pos e3).trans ((if_pos e4).trans (if_pos e2)))
theorem f_wm_1001 (e1 : ¬ sndr x.toNatClampNeg = 0) (e2 : slnk x.toNatClampNeg = 0) (e3 : rcvr x.toNatClampNeg = 0) (e4 : ¬ rlnk x.toNatClampNeg = 0) : FX8_wouldMove x (W 4) (W 11) (W 12) (W 14) (W 21) (W 22) sndr slnk rcvr rlnk = wm 1 0 21 12 W := (if_neg e1).trans ((if_pos e3).trans ((if_neg e4).trans (if_pos e2)))
theorem f_wm_1010 (e1 : ¬ sndr x.toNatClampNeg = 0) (e2 : slnk x.toNatClampNeg = 0) (e3 : ¬ rcvr x.toNatClampNeg = 0) (e4 : rlnk x.toNatClampNeg = 0) : FX8_wouldMove x (W 4) (W 11) (W 12) (W 14) (W 21) (W 22) sndr slnk rcvr rlnk = wm 1 1 21 21 W := (if_neg e1).trans ((if_neg e3).trans ((if_pos e4).trans (if_pos e2)))
theorem f_wm_1011 (e1 : ¬ sndr x.toNatClampNeg = 0) (e2 : slnk x.toNatClampNeg = 0) (e3 : ¬ rcvr x.toNatClampNeg = 0) (e4 : ¬ rlnk x.toNatClampNeg = 0) : FX8_wouldMove x (W 4) (W 11) (W 12) (W 14) (W 21) (W 22) sndr slnk rcvr rlnk = wm 1 1 21 22 W := (if_neg e1).trans ((if_neg e3).trans ((if_neg e4).trans (if_pos e2)))
theorem f_wm_1100 (e1 : ¬ sndr x.toNatClampNeg = 0) (e2 : ¬ slnk x.toNatClampNeg = 0) (e3 : rcvr x.toNatClampNeg = 0) (e4 : rlnk x.toNatClampNeg = 0) : FX8_wouldMove x (W 4) (W 11) (W 12) (W 14) (W 21) (W 22) sndr slnk rcvr rlnk = wm 1 0 22 11 W := (if_neg e1).trans ((if_pos e3).trans ((if_pos e4).trans (if_neg e2)))
theorem f_wm_1101 (e1 : ¬ sndr x.toNatClampNeg = 0) (e2 : ¬ slnk x.toNatClampNeg = 0) (e3 : rcvr x.toNatClampNeg = 0) (e4 : ¬ rlnk x.toNatClampNeg = 0) : FX8_wouldMove x (W 4) (W 11) (W 12) (W 14) (W 21) (W 22) sndr slnk rcvr rlnk = wm 1 0 22 12 W := (if_neg e1).trans ((if_pos e3).trans ((if_neg e4).trans (if_neg e2)))
theorem f_wm_1110 (e1 : ¬ sndr x.toNatClampNeg = 0) (e2 : ¬ slnk x.toNatClampNeg = 0) (e3 : ¬ rcvr x.toNatClampNeg = 0) (e4 : rlnk x.toNatClampNeg = 0) : FX8_wouldMove x (W 4) (W 11) (W 12) (W 14) (W 21) (W 22) sndr slnk rcvr rlnk = wm 1 1 22 21 W := (if_neg e1).trans ((if_neg e3).trans ((if_pos e4).trans (if_neg e2)))
theorem f_wm_1111 (e1 : ¬ sndr x.toNatClampNeg = 0) (e2 : ¬ slnk x.toNatClampNeg = 0) (e3 : ¬ rcvr x.toNatClampNeg = 0) (e4 : ¬ rlnk x.toNatClampNeg = 0) : FX8_wouldMove x (W 4) (W 11) (W 12) (W 14) (W 21) (W 22) sndr slnk rcvr rlnk = wm 1 1 22 22 W := (if_neg e1).trans ((if_neg e3).trans ((if_neg e4).trans (if_neg e2)))
theorem f_wm {s i r j : Nat} (hs : s < 2) (hi : i < 2) (hr : r < 2) (hj : j < 2) (e1 : sndr x.toNatClampNeg = nI s) (e2 : slnk x.toNatClampNeg = nI i) (e3 : rcvr x.toNatClampNeg = nI r) (e4 : rlnk x.toNatClampNeg = nI j) : FX8_wouldMove x (W 4) (W 11) (W 12) (W 14) (W 21) (W 22) sndr slnk rcvr rlnk = wm s r (11 + 10 * s + i) (11 + 10 * r + j) W := by
  rcases (show s = 0 ∨ s = 1 by omega) with rfl | rfl <;> rcases (show i = 0 ∨ i = 1 by omega) with rfl | rfl <;> rcases (show r = 0 ∨ r = 1 by omega) with rfl | rfl <;> rcases (show j = 0 ∨ j = 1 by omega) with rfl | rfl
  · exact f_wm_0000 (nI0 e1) (nI0 e2) (nI0 e3) (nI0 e4)
  · exact f_wm_0001 (nI0 e1) (nI0 e2) (nI0 e3) (nI1 e4)
  · exact f_wm_0010 (nI0 e1) (nI0 e2) (nI1 e3) (nI0 e4)
  · exact f_wm_0011 (nI0 e1) (nI0 e2) (nI1 e3) (nI1 e4)
  · exact f_wm_0100 (nI0 e1) (nI1 e2) (nI0 e3) (nI0 e4)
  · exact f_wm_0101 (nI0 e1) (nI1 e2) (nI0 e3) (nI1 e4)
  · exact f_wm_0110 (nI0 e1) (nI1 e2) (nI1 e3) (nI0 e4)
  · exact f_wm_0111 (nI0 e1) (nI1 e2) (nI1 e3) (nI1 e4)
  · exact f_wm_1000 (nI1 e1) (nI0 e2) (nI0 e3) (nI0 e4)
  · exact f_wm_1001 (nI1 e1) (nI0 e2) (nI0 e3) (nI1 e4)
  · exact f_wm_1010 (nI1 e1) (nI0 e2) (nI1 e3) (nI0 e4)
  · exact f_wm_1011 (nI1 e1) (nI0 e2) (nI1 e3) (nI1 e4)
  · exact f_wm_1100 (nI1 e1) (nI1 e2) (nI0 e3) (nI0 e4)
  · exact f_wm_1101 (nI1 e1) (nI1 e2) (nI0 e3) (nI1 e4)
  · exact f_wm_1110 (nI1 e1) (nI1 e2) (nI1 e3) (nI0 e4)
  · exact f_wm_1111 (nI1 e1) (nI1 e2) (nI1 e3) (nI1 e4)
theorem o_wm {s i r j : Nat} (hv : vp_in x 4) (hs : s < 2) (hi : i < 2) (hr : r < 2) (hj : j < 2) (e1 : sndr x.toNatClampNeg = nI s) (e2 : slnk x.toNatClampNeg = nI i) (e3 : rcvr x.toNatClampNeg = nI r) (e4 : rlnk x.toNatClampNeg = nI j) : OX8_wouldMove x (W 4) (W 11) (W 12) (W 14) (W 21) (W 22) sndr slnk rcvr rlnk := by
  have v1 := jvp2 hs e1
  have v2 := jvp2 hi e2
  have v3 := jvp2 hr e3
  have v4 := jvp2 hj e4
  have l4 : vp_in x 4 ∧ (vp_in (slnk x.toNatClampNeg) 2 ∧ ((slnk x.toNatClampNeg = 0 → True) ∧ (¬ (slnk x.toNatClampNeg = 0) → True))) := ⟨hv, v2, fun _ => trivial, fun _ => trivial⟩
  exact ⟨hv, v1, fun _ => ⟨hv, v3, fun _ => ⟨hv, v4, fun _ => l4, fun _ => l4⟩, fun _ => ⟨hv, v4, fun _ => l4, fun _ => l4⟩⟩, fun _ => ⟨hv, v3, fun _ => ⟨hv, v4, fun _ => l4, fun _ => l4⟩, fun _ => ⟨hv, v4, fun _ => l4, fun _ => l4⟩⟩⟩
end WMS
section WMV
variable {W : Nat → mF} {f joins n : mF} {s i r j k : Nat}
/-- a join on both sides -/
theorem p_wm (hk : k < 4) (hs : s < 2) (hi : i < 2) (hr : r < 2) (hj : j < 2) (e1 : joins (2 * k) = nI (2 * s + i)) (e2 : joins (2 * k + 1) = nI (2 * r + j)) (h : RW2 W n) : (wm s r (11 + 10 * s + i) (11 + 10 * r + j) W = 0 ∧ (FX10_isDead (nI k) joins n = 0 → FX10_canSend (nI (174 * s + 154 + 10 * i)) (nI (174 * r + 154 + 10 * j)) n = 0 ∧ (n (174 * r + 154 + 10 * j + 7) = 1 → n (174 * r + 154 + 10 * j + 4) = -1))) ∨ (wm s r (11 + 10 * s + i) (11 + 10 * r + j) W = 1 ∧ FX10_isDead (nI k) joins n = 0 ∧ (FX10_canSend (nI (174 * s + 154 + 10 * i)) (nI (174 * r + 154 + 10 * j)) n = 0 → n (174 * r + 154 + 10 * j + 7) = 1 ∧ ¬ n (174 * r + 154 + 10 * j + 4) = -1)) := by
  have z10 : ¬ (1 : Int32) = 0 := by decide
  have z01 : ¬ (0 : Int32) = 1 := by decide
  obtain ⟨ha, va⟩ := RMw_ha (h s hs)
  obtain ⟨hb, vb⟩ := RMw_ha (h r hr)
  have ha : n (174 * s + 97) = W (4 + 10 * s) 19 := ha
  have hb : n (174 * r + 97) = W (4 + 10 * r) 19 := hb
  obtain ⟨-, d2⟩ := p_dead (n := n) hk hs hi hr hj e1 e2
  obtain ⟨-, c2⟩ := p_canSend (x := 174 * s + 154 + 10 * i) (y := 174 * r + 154 + 10 * j) (n := n) (by omega) (by omega)
  obtain ⟨n7, v7⟩ := lk7 h hr hj
  have n4 := lk4 h hr hj
  have n0 := lk0 h hs hi
  rw [ha, hb] at d2
  rw [n0, n7] at c2
  rw [n7, n4]
  by_cases a : W (4 + 10 * s) 19 = 0
  · have fa : FX3_isHalted (W (4 + 10 * s)) = 0 := if_pos a
    by_cases b : W (4 + 10 * r) 19 = 0
    · have fb' : FX3_isHalted (W (4 + 10 * r)) = 0 := if_pos b
      have dd : FX10_isDead (nI k) joins n = 0 := by rw [d2, a, b, if_neg z01, if_neg z01]
      -- whether one can receive
      have rcv : (FX2_canReceive (W (11 + 10 * r + j)) = 0 ∧ (W (11 + 10 * r + j) 7 = 1 → W (11 + 10 * r + j) 4 = -1)) ∨ (¬ FX2_canReceive (W (11 + 10 * r + j)) = 0 ∧ W (11 + 10 * r + j) 7 = 1 ∧ ¬ W (11 + 10 * r + j) 4 = -1) := by
        rcases v7 with c7 | c7
        · exact Or.inl ⟨if_pos c7, fun q => absurd (c7.symm.trans q) z01⟩
        · have c70 : ¬ W (11 + 10 * r + j) 7 = 0 := by rw [c7]; exact z10
          by_cases c4 : W (11 + 10 * r + j) 4 = -1
          · exact Or.inl ⟨(if_neg c70).trans (if_pos c4), fun _ => c4⟩
          · exact Or.inr ⟨fun q => z10 (((if_neg c70).trans (if_neg c4)).symm.trans q), c7, c4⟩
      -- nothing to send
      have none : (FX2_hasToSend (W (11 + 10 * s + i)) = 0 ∨ ¬ W (11 + 10 * r + j) 7 = 0) → FX10_canSend (nI (174 * s + 154 + 10 * i)) (nI (174 * r + 154 + 10 * j)) n = 0 → (wm s r (11 + 10 * s + i) (11 + 10 * r + j) W = 0 ∧ (FX10_isDead (nI k) joins n = 0 → FX10_canSend (nI (174 * s + 154 + 10 * i)) (nI (174 * r + 154 + 10 * j)) n = 0 ∧ (W (11 + 10 * r + j) 7 = 1 → W (11 + 10 * r + j) 4 = -1))) ∨ (wm s r (11 + 10 * s + i) (11 + 10 * r + j) W = 1 ∧ FX10_isDead (nI k) joins n = 0 ∧ (FX10_canSend (nI (174 * s + 154 + 10 * i)) (nI (174 * r + 154 + 10 * j)) n = 0 → W (11 + 10 * r + j) 7 = 1 ∧ ¬ W (11 + 10 * r + j) 4 = -1)) := by
        intro q1 q2
        have ew : wm s r (11 + 10 * s + i) (11 + 10 * r + j) W = if FX2_canReceive (W (11 + 10 * r + j)) = 0 then 0 else 1 := by
          by_cases c : FX2_hasToSend (W (11 + 10 * s + i)) = 0
          · exact (if_pos c).trans ((if_pos fa).trans (if_pos fb'))
          · exact (if_neg c).trans ((if_neg (q1.resolve_left c)).trans ((if_pos fa).trans (if_pos fb')))
        rcases rcv with ⟨x1, x2⟩ | ⟨x1, x2, x3⟩
        · exact Or.inl ⟨ew.trans (if_pos x1), fun _ => ⟨q2, x2⟩⟩
        · exact Or.inr ⟨ew.trans (if_neg x1), dd, fun _ => ⟨x2, x3⟩⟩
      by_cases c0 : W (11 + 10 * s + i) 0 = -1
      · exact none (Or.inl (if_pos c0)) (by rw [c2, if_pos c0])
      · rw [lk2 h hs hi c0] at c2
        by_cases e2 : W (11 + 10 * s + i) 2 ≤ 0
        · exact none (Or.inl ((if_neg c0).trans (if_pos e2))) (by rw [c2, if_neg c0, if_pos e2])
        · by_cases c7 : W (11 + 10 * r + j) 7 = 0
          · have ch : ¬ FX2_hasToSend (W (11 + 10 * s + i)) = 0 := fun q => z10 (((if_neg c0).trans (if_neg e2)).symm.trans q)
            have cc : FX10_canSend (nI (174 * s + 154 + 10 * i)) (nI (174 * r + 154 + 10 * j)) n = 1 := by rw [c2, if_neg c0, if_neg e2, if_pos c7]
            refine Or.inr ⟨(if_neg ch).trans ((if_pos c7).trans ((if_pos fa).trans (if_pos fb'))), dd, fun q => absurd (cc.symm.trans q) z10⟩
          · exact none (Or.inr c7) (by rw [c2, if_neg c0, if_neg e2, if_neg c7])
    · have fb' : ¬ FX3_isHalted (W (4 + 10 * r)) = 0 := fun q => z10 ((if_neg b).symm.trans q)
      have dd : ¬ FX10_isDead (nI k) joins n = 0 := by rw [d2, vb.resolve_left b, if_pos rfl]; split <;> exact z10
      refine Or.inl ⟨?_, fun q => absurd q dd⟩
      unfold wm
      (try dsimp only)
      rw [if_pos fa, if_neg fb', if_neg fb']
      split
      · rfl
      · split <;> rfl
  · have fa : ¬ FX3_isHalted (W (4 + 10 * s)) = 0 := fun q => z10 ((if_neg a).symm.trans q)
    have dd : ¬ FX10_isDead (nI k) joins n = 0 := by rw [d2, va.resolve_left a, if_pos rfl]; exact z10
    refine Or.inl ⟨?_, fun q => absurd q dd⟩
    unfold wm
    (try dsimp only)
    rw [if_neg fa]
    split
    · rfl
    · split <;> rfl
end WMV
theorem l_stuck {prg sndr slnk rcvr rlnk joins : mF} {J : Nat} {W : Nat → mF} {f n : mF} (hR : RW2 W n) (hC : RJs J prg sndr slnk rcvr rlnk f joins) : ∀ (m k fuel : Nat), k + m = J → m < fuel → OX8_isStuck_b3 fuel (nI k) (W 4) (W 7) (W 11) (W 12) (W 14) (W 17) (W 21) (W 22) prg sndr slnk rcvr rlnk ∧ OX10_isStuck_b5 fuel (nI k) f joins n ∧ FX10_isStuck_b5 fuel (nI k) f joins n = (FX8_isStuck_b3 fuel (nI k) (W 4) (W 7) (W 11) (W 12) (W 14) (W 17) (W 21) (W 22) prg sndr slnk rcvr rlnk, f)
  | _, _, 0, _, h => absurd h (Nat.not_lt_zero _)
  | 0, k, fuel + 1, hk, _ => by
    obtain ⟨j1, j2, j3, j4, j5⟩ := hC
    have e : k = J := by omega
    subst e
    have c1 : prg 7 ≤ nI k := by rw [j2]; exact nI_le (Nat.le_refl _) (by omega)
    have c2 : f 35 ≤ nI k := by rw [j3]; exact nI_le (Nat.le_refl _) (by omega)
    rw [OX8_isStuck_b3, FX8_isStuck_b3, OX10_isStuck_b5, FX10_isStuck_b5, if_pos c1, if_pos c2]
    exact ⟨⟨fun _ => trivial, fun q => absurd c1 q⟩, ⟨fun _ => trivial, fun q => absurd c2 q⟩, rfl⟩
  | m + 1, k, fuel + 1, hk, hf => by
    have ih := l_stuck hR hC m (k + 1) fuel (by omega) (by omega)
    obtain ⟨j1, j2, j3, j4, j5⟩ := hC
    have hkJ : k < J := by omega
    have c1 : ¬ prg 7 ≤ nI k := by rw [j2]; exact nI_ge hkJ (by omega)
    have c2 : ¬ f 35 ≤ nI k := by rw [j3]; exact nI_ge hkJ (by omega)
    obtain ⟨s, i, r, j, hs, hi, hr, hj, a1, a2, a3, a4, e1, e2⟩ := j4 k hkJ
    have hcl : (nI k).toNatClampNeg = k := nI_clamp (by omega)
    have hv : vp_in (nI k) 4 := vp_in_nI (by omega) (by decide)
    have fw := f_wm (x := nI k) (W := W) (sndr := sndr) (slnk := slnk) (rcvr := rcvr) (rlnk := rlnk) hs hi hr hj (by rw [hcl]; exact a1) (by rw [hcl]; exact a2) (by rw [hcl]; exact a3) (by rw [hcl]; exact a4)
    have ow := o_wm (x := nI k) (W := W) (sndr := sndr) (slnk := slnk) (rcvr := rcvr) (rlnk := rlnk) hv hs hi hr hj (by rw [hcl]; exact a1) (by rw [hcl]; exact a2) (by rw [hcl]; exact a3) (by rw [hcl]; exact a4)
    obtain ⟨i1, i2, i3, i4⟩ := jn_idx (show k < 4 by omega)
    obtain ⟨s1, -, -, -⟩ := jn_link hs hi
    obtain ⟨s2, -, -, -⟩ := jn_link hr hj
    obtain ⟨d1, -⟩ := p_dead (n := n) (show k < 4 by omega) hs hi hr hj e1 e2
    obtain ⟨cs, -⟩ := p_canSend (x := 174 * s + 154 + 10 * i) (y := 174 * r + 154 + 10 * j) (n := n) (by omega) (by omega)
    have y71 : (nI (174 * r + 154 + 10 * j) + 7).toNatClampNeg = 174 * r + 154 + 10 * j + 7 := (ix (a := 174 * r + 154 + 10 * j) (k := 7) (by omega)).1
    have y72 : vp_in (nI (174 * r + 154 + 10 * j) + 7) 532 := (ix (a := 174 * r + 154 + 10 * j) (k := 7) (by omega)).2
    have y41 : (nI (174 * r + 154 + 10 * j) + 4).toNatClampNeg = 174 * r + 154 + 10 * j + 4 := (ix (a := 174 * r + 154 + 10 * j) (k := 4) (by omega)).1
    have y42 : vp_in (nI (174 * r + 154 + 10 * j) + 4) 532 := (ix (a := 174 * r + 154 + 10 * j) (k := 4) (by omega)).2
    obtain ⟨ih1, ih2, ih3⟩ := ih
    rw [OX8_isStuck_b3, FX8_isStuck_b3, OX10_isStuck_b5, FX10_isStuck_b5, if_neg c1, if_neg c2, fw, i1, i2, e1, e2, s1, s2]
    dsimp only
    rw [y71, y41, nI_1]
    rcases p_wm (show k < 4 by omega) hs hi hr hj e1 e2 hR with ⟨w0, w1⟩ | ⟨w0, w1, w2⟩
    · rw [w0]
      refine ⟨⟨fun q => absurd q c1, fun _ => ⟨ow, fun _ => ih1, fun q => absurd rfl q⟩⟩, ⟨fun q => absurd q c2, fun _ => ⟨i3, i4, d1, fun q => ⟨cs, fun _ => ⟨y72, fun _ => ⟨y42, fun _ => ih2, fun _ => trivial⟩, fun _ => ih2⟩, fun _ => trivial⟩, fun _ => ih2⟩⟩, ?_⟩
      rw [if_pos (show (0 : Int32) = 0 from rfl)]
      by_cases dd : FX10_isDead (nI k) joins n = 0
      · obtain ⟨w2, w3⟩ := w1 dd
        rw [if_pos dd]
        (try dsimp only)
        rw [if_pos w2]
        by_cases c7 : n (174 * r + 154 + 10 * j + 7) = 1
        · rw [if_pos c7, if_pos (w3 c7)]
          exact ih3
        · rw [if_neg c7]
          exact ih3
      · rw [if_neg dd]
        exact ih3
    · rw [w0]
      have z10 : ¬ (1 : Int32) = 0 := by decide
      refine ⟨⟨fun q => absurd q c1, fun _ => ⟨ow, fun q => absurd q z10, fun _ => trivial⟩⟩, ⟨fun q => absurd q c2, fun _ => ⟨i3, i4, d1, fun q => ⟨cs, fun c0 => ⟨y72, fun _ => ⟨y42, fun _ => ih2, fun _ => trivial⟩, fun _ => ih2⟩, fun _ => trivial⟩, fun _ => ih2⟩⟩, ?_⟩
      rw [if_neg z10, if_pos w1]
      (try dsimp only)
      by_cases c : FX10_canSend (nI (174 * s + 154 + 10 * i)) (nI (174 * r + 154 + 10 * j)) n = 0
      · obtain ⟨w3, w4⟩ := w2 c
        rw [if_pos c, if_pos w3, if_neg w4]
      · rw [if_neg c]
