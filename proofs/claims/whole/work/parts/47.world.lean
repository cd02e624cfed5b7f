/-! PURE: a world as a row of rows; the steps of a join on it (GENERATED, wip/gen/p/47.py) -/
def uw (W : Nat → mF) (c : Nat) (v : mF) : Nat → mF := fun k => if k = c then v else W k
theorem uw_s {W : Nat → mF} {c : Nat} {v : mF} : uw W c v c = v := if_pos rfl
theorem uw_n {W : Nat → mF} {c k : Nat} {v : mF} (h : k ≠ c) : uw W c v k = W k := if_neg h
/-- machine m of a world of rows (0 world, 1 diary, 2 meetings, 3.. first machine, 13.. second one) -/
def RMw (W : Nat → mF) (m : Nat) (g : mF) : Prop := RM (W (4 + 10 * m)) (W (6 + 10 * m)) (W (7 + 10 * m)) (W (8 + 10 * m)) (W (9 + 10 * m)) (W (10 + 10 * m)) (W (11 + 10 * m)) (W (12 + 10 * m)) g
def RW2 (W : Nat → mF) (n : mF) : Prop := ∀ m, m < 2 → RMw W m (fun k => n (174 * m + k))
theorem RMw_g {W : Nat → mF} {m : Nat} {g g' : mF} (h : RMw W m g) (hg : ∀ k, k < 174 → g' k = g k) : RMw W m g' := RM_g h hg
theorem RMw_W {W W' : Nat → mF} {m : Nat} {g : mF} (h : RMw W m g) (hW : ∀ c, 4 + 10 * m ≤ c → c < 13 + 10 * m → W' c = W c) : RMw W' m g := by
  unfold RMw
  rw [hW (4 + 10 * m) (by omega) (by omega), hW (6 + 10 * m) (by omega) (by omega), hW (7 + 10 * m) (by omega) (by omega), hW (8 + 10 * m) (by omega) (by omega), hW (9 + 10 * m) (by omega) (by omega), hW (10 + 10 * m) (by omega) (by omega), hW (11 + 10 * m) (by omega) (by omega), hW (12 + 10 * m) (by omega) (by omega)]
  exact h
theorem RMw_lk {W : Nat → mF} {m i : Nat} {g : mF} (h : RMw W m g) (hi : i < 2) : RLk (W (11 + 10 * m + i)) (154 + 10 * i) g := by
  rcases (show i = 0 ∨ i = 1 by omega) with rfl | rfl
  · exact h.2.2.2.2.2.2.1
  · rw [show 11 + 10 * m + 1 = 12 + 10 * m by omega]
    exact h.2.2.2.2.2.2.2
theorem RMw_ha {W : Nat → mF} {m : Nat} {g : mF} (h : RMw W m g) : g 97 = W (4 + 10 * m) 19 ∧ (W (4 + 10 * m) 19 = 0 ∨ W (4 + 10 * m) 19 = 1) := h.2.2.2.2.1.2
theorem RW2_set {W W' : Nat → mF} {m : Nat} {n g : mF} (h : RW2 W n) (hm : m < 2) (hW : ∀ c, c < 4 + 10 * m ∨ 13 + 10 * m ≤ c → W' c = W c) (hg : RMw W' m g) : RW2 W' (emb (174 * m) n g) := by
  intro q hq
  by_cases e : q = m
  · subst e
    exact RMw_g hg (fun k hk => emb_at hk)
  · exact RMw_g (RMw_W (h q hq) (fun c a b => hW c (by omega))) (fun k hk => emb_out (by omega))
/-- steps of a join -/
def jOut (W : Nat → mF) (O : Nat) : Nat → mF := uw W O (upd (upd (W O) 1 (W O 1 + 1)) 2 (W O 2 - 1))
def jFill (W : Nat → mF) (r N : Nat) (x : Int32) : Nat → mF :=
  let u := FX3_fillBuffer x (W (4 + 10 * r)) (W (6 + 10 * r)) (W (7 + 10 * r)) (W (8 + 10 * r)) (W (9 + 10 * r)) (W (10 + 10 * r)) (W N); uw (uw (uw (uw (uw (uw (uw W (4 + 10 * r) u.2.1) (6 + 10 * r) u.2.2.1) (7 + 10 * r) u.2.2.2.1) (8 + 10 * r) u.2.2.2.2.1) (9 + 10 * r) u.2.2.2.2.2.1) (10 + 10 * r) u.2.2.2.2.2.2.1) N u.2.2.2.2.2.2.2
def jEmp (W : Nat → mF) (r N : Nat) : Nat → mF :=
  let u := FX3_emptyBuffer (W (4 + 10 * r)) (W (6 + 10 * r)) (W N); uw (uw (uw W (4 + 10 * r) u.2.1) (6 + 10 * r) u.2.2.1) N u.2.2.2
def jDone (ms ml p : Int32) (E : Nat → mF) (s O : Nat) : Nat → mF :=
  let a := FX0_note ms ml (E O 0) p (E O 3) (E 1) (E 2); let u := FX3_schedule (E O 0) (E (4 + 10 * s)) (E (6 + 10 * s)); let z := FX2_endSending (E O); uw (uw (uw (uw (uw E 1 a.2.1) 2 a.2.2) (4 + 10 * s) u.2.1) (6 + 10 * s) u.2.2) O z.2
theorem jOut_o {W : Nat → mF} {O c : Nat} (h : c ≠ O) : jOut W O c = W c := uw_n h
theorem jFill_o {W : Nat → mF} {r N c : Nat} {x : Int32} (h : c = 5 + 10 * r ∨ c < 4 + 10 * r ∨ 10 + 10 * r < c) (hN : c ≠ N) : jFill W r N x c = W c := by
  unfold jFill
  (try dsimp only)
  rw [uw_n hN, uw_n (by omega), uw_n (by omega), uw_n (by omega), uw_n (by omega), uw_n (by omega), uw_n (by omega)]
theorem jEmp_o {W : Nat → mF} {r N c : Nat} (h : c = 5 + 10 * r ∨ c < 4 + 10 * r ∨ 10 + 10 * r < c) (hN : c ≠ N) : jEmp W r N c = W c := by
  unfold jEmp
  (try dsimp only)
  rw [uw_n hN, uw_n (by omega), uw_n (by omega)]
theorem jDone_o {W : Nat → mF} {ms ml p : Int32} {s O c : Nat} (h : c ≠ 1 ∧ c ≠ 2 ∧ (c = 5 + 10 * s ∨ c < 4 + 10 * s ∨ 10 + 10 * s < c)) (hN : c ≠ O) : jDone ms ml p W s O c = W c := by
  unfold jDone
  (try dsimp only)
  rw [uw_n hN, uw_n (by omega), uw_n (by omega), uw_n (by omega), uw_n (by omega)]
theorem jFill_N {W : Nat → mF} {r N : Nat} {x : Int32} : jFill W r N x N = upd (upd (upd (W N) 8 x) 7 1) 9 (-1) := by
  unfold jFill
  (try dsimp only)
  rw [uw_s]
  unfold FX3_fillBuffer
  split <;> rfl
section STP
variable {W : Nat → mF} {F n g : mF} {m i : Nat}
theorem s_out (hm : m < 2) (hi : i < 2) (h : RMw W m g) (h0 : ¬ W (11 + 10 * m + i) 0 = -1) (h2 : ¬ W (11 + 10 * m + i) 2 ≤ 0) : ∃ a : Nat, a < 96 ∧ W (11 + 10 * m + i) 1 = nI a ∧ g (155 + 10 * i) = nI a ∧ g (156 + 10 * i) = W (11 + 10 * m + i) 2 ∧ g a = W (6 + 10 * m) a ∧ RMw (jOut W (11 + 10 * m + i)) m (upd (upd g (155 + 10 * i) (W (11 + 10 * m + i) 1 + 1)) (156 + 10 * i) (W (11 + 10 * m + i) 2 - 1)) := by
  rcases (show m = 0 ∨ m = 1 by omega) with rfl | rfl <;> rcases (show i = 0 ∨ i = 1 by omega) with rfl | rfl
  · exact p_out0 h h0 h2
  · exact p_out1 h h0 h2
  · exact p_out0 h h0 h2
  · exact p_out1 h h0 h2
/-- what the buffer's filling lays into the block -/
def gIn (i : Nat) (x : Int32) (g : mF) : mF := upd (upd (upd g (162 + 10 * i) x) (161 + 10 * i) 1) (163 + 10 * i) (-1)
theorem s_fill {x : Int32} (H : Hb F (174 * m)) (hm : m < 2) (hi : i < 2) (h : RMw W m g) : OX3_fillBuffer x (W (4 + 10 * m)) (W (6 + 10 * m)) (W (7 + 10 * m)) (W (8 + 10 * m)) (W (9 + 10 * m)) (W (10 + 10 * m)) (W (11 + 10 * m + i)) ∧ (W (11 + 10 * m + i) 9 = -1 → RMw (jFill W m (11 + 10 * m + i) x) m (gIn i x g)) ∧ (¬ W (11 + 10 * m + i) 9 = -1 → OtIn (W (11 + 10 * m + i) 9) (fb F 0) (emb (174 * m) n (gIn i x g)) ∧ ∃ g1, tIn (W (11 + 10 * m + i) 9) (fb F 0) (emb (174 * m) n (gIn i x g)) = (0, fb F 0, emb (174 * m) n g1) ∧ RMw (jFill W m (11 + 10 * m + i) x) m g1) := by
  rcases (show m = 0 ∨ m = 1 by omega) with rfl | rfl <;> rcases (show i = 0 ∨ i = 1 by omega) with rfl | rfl
  · obtain ⟨h1, h2⟩ := p_fill0 (n := n) (x := x) H h
    by_cases e : W 11 9 = -1
    · obtain ⟨a1, a2, a3⟩ := h1 e
      refine ⟨a1, fun _ => ?_, fun q => absurd e q⟩
      have a3' := a3
      unfold RMw jFill
      rw [show FX3_fillBuffer x (W (4 + 10 * 0)) (W (6 + 10 * 0)) (W (7 + 10 * 0)) (W (8 + 10 * 0)) (W (9 + 10 * 0)) (W (10 + 10 * 0)) (W (11 + 10 * 0 + 0)) = _ from a2]
      exact a3
    · obtain ⟨a1, a2, a3, r, g1, b1, b2, b3, b4, b5, b6⟩ := h2 e
      have hR : RMw (jFill W 0 (11 + 10 * 0 + 0) x) 0 g1 := by
        unfold RMw jFill
        rw [show FX3_fillBuffer x (W (4 + 10 * 0)) (W (6 + 10 * 0)) (W (7 + 10 * 0)) (W (8 + 10 * 0)) (W (9 + 10 * 0)) (W (10 + 10 * 0)) (W (11 + 10 * 0 + 0)) = r from b1]
        rw [← b3] at b2
        exact b2
      refine ⟨a1, fun q => absurd q e, fun _ => ?_⟩
      have a2 : OX10_at (W (11 + 10 * 0 + 0) 9 / 2 - 3) (fb F 0) (emb (174 * 0) n (gIn 0 x g)) := a2
      have a3 : FX10_at (W (11 + 10 * 0 + 0) 9 / 2 - 3) (fb F 0) (emb (174 * 0) n (gIn 0 x g)) = _ := a3
      by_cases e2 : W 6 (W 11 9 / 2 - 3).toNatClampNeg = -2
      · obtain ⟨c1, c2⟩ := b4 e2
        have e3 : ¬ W 6 (W 11 9 / 2 - 3).toNatClampNeg = -3 := fun q => by rw [q] at e2; exact absurd e2 (by decide)
        have c1 : OX10_lay (W (11 + 10 * 0 + 0) 9 / 2 - 3) (-4) (fb F 0) (emb (174 * 0) n (gIn 0 x g)) := c1
        have c2 : FX10_lay (W (11 + 10 * 0 + 0) 9 / 2 - 3) (-4) (fb F 0) (emb (174 * 0) n (gIn 0 x g)) = _ := c2
        refine ⟨?_, g1, ?_, hR⟩
        · unfold OtIn
          (try dsimp only)
          rw [a3]
          exact ⟨a2, fun _ => ⟨c1, fun q => absurd q e3, fun _ => trivial⟩, fun q => absurd e2 q⟩
        · unfold tIn
          (try dsimp only)
          rw [a3]
          dsimp only
          rw [if_pos e2, if_neg e3, c2]
      · by_cases e3 : W 6 (W 11 9 / 2 - 3).toNatClampNeg = -3
        · obtain ⟨c1, g2, c2, c3, c4⟩ := b5 e3
          have c1 : OX10_lay (W (11 + 10 * 0 + 0) 9 / 2 - 3) (-4) (fb F 0) (emb (174 * 0) n (gIn 0 x g)) := c1
          have c2 : FX10_lay (W (11 + 10 * 0 + 0) 9 / 2 - 3) (-4) (fb F 0) (emb (174 * 0) n (gIn 0 x g)) = _ := c2
          refine ⟨?_, g1, ?_, hR⟩
          · unfold OtIn
            (try dsimp only)
            rw [a3]
            dsimp only
            rw [c2]
            exact ⟨a2, fun q => absurd q e2, fun _ => ⟨fun _ => ⟨c1, fun _ => c3, fun q => absurd e3 q⟩, fun q => absurd e3 q⟩⟩
          · unfold tIn
            (try dsimp only)
            rw [a3]
            dsimp only
            rw [if_neg e2, if_pos e3, if_pos e3, c2]
            dsimp only
            exact (congrArg (fun u : Int32 × mF × mF => ((0 : Int32), u.2.1, u.2.2)) c4)
        · have c := b6 e2 e3
          refine ⟨?_, g1, ?_, hR⟩
          · unfold OtIn
            (try dsimp only)
            rw [a3]
            exact ⟨a2, fun q => absurd q e2, fun _ => ⟨fun q => absurd q e3, fun _ => ⟨fun q => absurd q e3, fun _ => trivial⟩⟩⟩
          · unfold tIn
            (try dsimp only)
            rw [a3]
            dsimp only
            rw [if_neg e2, if_neg e3, if_neg e3, c]
            rfl
  · obtain ⟨h1, h2⟩ := p_fill1 (n := n) (x := x) H h
    by_cases e : W 12 9 = -1
    · obtain ⟨a1, a2, a3⟩ := h1 e
      refine ⟨a1, fun _ => ?_, fun q => absurd e q⟩
      have a3' := a3
      unfold RMw jFill
      rw [show FX3_fillBuffer x (W (4 + 10 * 0)) (W (6 + 10 * 0)) (W (7 + 10 * 0)) (W (8 + 10 * 0)) (W (9 + 10 * 0)) (W (10 + 10 * 0)) (W (11 + 10 * 0 + 1)) = _ from a2]
      exact a3
    · obtain ⟨a1, a2, a3, r, g1, b1, b2, b3, b4, b5, b6⟩ := h2 e
      have hR : RMw (jFill W 0 (11 + 10 * 0 + 1) x) 0 g1 := by
        unfold RMw jFill
        rw [show FX3_fillBuffer x (W (4 + 10 * 0)) (W (6 + 10 * 0)) (W (7 + 10 * 0)) (W (8 + 10 * 0)) (W (9 + 10 * 0)) (W (10 + 10 * 0)) (W (11 + 10 * 0 + 1)) = r from b1]
        rw [← b3] at b2
        exact b2
      refine ⟨a1, fun q => absurd q e, fun _ => ?_⟩
      have a2 : OX10_at (W (11 + 10 * 0 + 1) 9 / 2 - 3) (fb F 0) (emb (174 * 0) n (gIn 1 x g)) := a2
      have a3 : FX10_at (W (11 + 10 * 0 + 1) 9 / 2 - 3) (fb F 0) (emb (174 * 0) n (gIn 1 x g)) = _ := a3
      by_cases e2 : W 6 (W 12 9 / 2 - 3).toNatClampNeg = -2
      · obtain ⟨c1, c2⟩ := b4 e2
        have e3 : ¬ W 6 (W 12 9 / 2 - 3).toNatClampNeg = -3 := fun q => by rw [q] at e2; exact absurd e2 (by decide)
        have c1 : OX10_lay (W (11 + 10 * 0 + 1) 9 / 2 - 3) (-4) (fb F 0) (emb (174 * 0) n (gIn 1 x g)) := c1
        have c2 : FX10_lay (W (11 + 10 * 0 + 1) 9 / 2 - 3) (-4) (fb F 0) (emb (174 * 0) n (gIn 1 x g)) = _ := c2
        refine ⟨?_, g1, ?_, hR⟩
        · unfold OtIn
          (try dsimp only)
          rw [a3]
          exact ⟨a2, fun _ => ⟨c1, fun q => absurd q e3, fun _ => trivial⟩, fun q => absurd e2 q⟩
        · unfold tIn
          (try dsimp only)
          rw [a3]
          dsimp only
          rw [if_pos e2, if_neg e3, c2]
      · by_cases e3 : W 6 (W 12 9 / 2 - 3).toNatClampNeg = -3
        · obtain ⟨c1, g2, c2, c3, c4⟩ := b5 e3
          have c1 : OX10_lay (W (11 + 10 * 0 + 1) 9 / 2 - 3) (-4) (fb F 0) (emb (174 * 0) n (gIn 1 x g)) := c1
          have c2 : FX10_lay (W (11 + 10 * 0 + 1) 9 / 2 - 3) (-4) (fb F 0) (emb (174 * 0) n (gIn 1 x g)) = _ := c2
          refine ⟨?_, g1, ?_, hR⟩
          · unfold OtIn
            (try dsimp only)
            rw [a3]
            dsimp only
            rw [c2]
            exact ⟨a2, fun q => absurd q e2, fun _ => ⟨fun _ => ⟨c1, fun _ => c3, fun q => absurd e3 q⟩, fun q => absurd e3 q⟩⟩
          · unfold tIn
            (try dsimp only)
            rw [a3]
            dsimp only
            rw [if_neg e2, if_pos e3, if_pos e3, c2]
            dsimp only
            exact (congrArg (fun u : Int32 × mF × mF => ((0 : Int32), u.2.1, u.2.2)) c4)
        · have c := b6 e2 e3
          refine ⟨?_, g1, ?_, hR⟩
          · unfold OtIn
            (try dsimp only)
            rw [a3]
            exact ⟨a2, fun q => absurd q e2, fun _ => ⟨fun q => absurd q e3, fun _ => ⟨fun q => absurd q e3, fun _ => trivial⟩⟩⟩
          · unfold tIn
            (try dsimp only)
            rw [a3]
            dsimp only
            rw [if_neg e2, if_neg e3, if_neg e3, c]
            rfl
  · obtain ⟨h1, h2⟩ := p_fill0 (n := n) (x := x) H h
    by_cases e : W 21 9 = -1
    · obtain ⟨a1, a2, a3⟩ := h1 e
      refine ⟨a1, fun _ => ?_, fun q => absurd e q⟩
      have a3' := a3
      unfold RMw jFill
      rw [show FX3_fillBuffer x (W (4 + 10 * 1)) (W (6 + 10 * 1)) (W (7 + 10 * 1)) (W (8 + 10 * 1)) (W (9 + 10 * 1)) (W (10 + 10 * 1)) (W (11 + 10 * 1 + 0)) = _ from a2]
      exact a3
    · obtain ⟨a1, a2, a3, r, g1, b1, b2, b3, b4, b5, b6⟩ := h2 e
      have hR : RMw (jFill W 1 (11 + 10 * 1 + 0) x) 1 g1 := by
        unfold RMw jFill
        rw [show FX3_fillBuffer x (W (4 + 10 * 1)) (W (6 + 10 * 1)) (W (7 + 10 * 1)) (W (8 + 10 * 1)) (W (9 + 10 * 1)) (W (10 + 10 * 1)) (W (11 + 10 * 1 + 0)) = r from b1]
        rw [← b3] at b2
        exact b2
      refine ⟨a1, fun q => absurd q e, fun _ => ?_⟩
      have a2 : OX10_at (W (11 + 10 * 1 + 0) 9 / 2 - 3) (fb F 0) (emb (174 * 1) n (gIn 0 x g)) := a2
      have a3 : FX10_at (W (11 + 10 * 1 + 0) 9 / 2 - 3) (fb F 0) (emb (174 * 1) n (gIn 0 x g)) = _ := a3
      by_cases e2 : W 16 (W 21 9 / 2 - 3).toNatClampNeg = -2
      · obtain ⟨c1, c2⟩ := b4 e2
        have e3 : ¬ W 16 (W 21 9 / 2 - 3).toNatClampNeg = -3 := fun q => by rw [q] at e2; exact absurd e2 (by decide)
        have c1 : OX10_lay (W (11 + 10 * 1 + 0) 9 / 2 - 3) (-4) (fb F 0) (emb (174 * 1) n (gIn 0 x g)) := c1
        have c2 : FX10_lay (W (11 + 10 * 1 + 0) 9 / 2 - 3) (-4) (fb F 0) (emb (174 * 1) n (gIn 0 x g)) = _ := c2
        refine ⟨?_, g1, ?_, hR⟩
        · unfold OtIn
          (try dsimp only)
          rw [a3]
          exact ⟨a2, fun _ => ⟨c1, fun q => absurd q e3, fun _ => trivial⟩, fun q => absurd e2 q⟩
        · unfold tIn
          (try dsimp only)
          rw [a3]
          dsimp only
          rw [if_pos e2, if_neg e3, c2]
      · by_cases e3 : W 16 (W 21 9 / 2 - 3).toNatClampNeg = -3
        · obtain ⟨c1, g2, c2, c3, c4⟩ := b5 e3
          have c1 : OX10_lay (W (11 + 10 * 1 + 0) 9 / 2 - 3) (-4) (fb F 0) (emb (174 * 1) n (gIn 0 x g)) := c1
          have c2 : FX10_lay (W (11 + 10 * 1 + 0) 9 / 2 - 3) (-4) (fb F 0) (emb (174 * 1) n (gIn 0 x g)) = _ := c2
          refine ⟨?_, g1, ?_, hR⟩
          · unfold OtIn
            (try dsimp only)
            rw [a3]
            dsimp only
            rw [c2]
            exact ⟨a2, fun q => absurd q e2, fun _ => ⟨fun _ => ⟨c1, fun _ => c3, fun q => absurd e3 q⟩, fun q => absurd e3 q⟩⟩
          · unfold tIn
            (try dsimp only)
            rw [a3]
            dsimp only
            rw [if_neg e2, if_pos e3, if_pos e3, c2]
            dsimp only
            exact (congrArg (fun u : Int32 × mF × mF => ((0 : Int32), u.2.1, u.2.2)) c4)
        · have c := b6 e2 e3
          refine ⟨?_, g1, ?_, hR⟩
          · unfold OtIn
            (try dsimp only)
            rw [a3]
            exact ⟨a2, fun q => absurd q e2, fun _ => ⟨fun q => absurd q e3, fun _ => ⟨fun q => absurd q e3, fun _ => trivial⟩⟩⟩
          · unfold tIn
            (try dsimp only)
            rw [a3]
            dsimp only
            rw [if_neg e2, if_neg e3, if_neg e3, c]
            rfl
  · obtain ⟨h1, h2⟩ := p_fill1 (n := n) (x := x) H h
    by_cases e : W 22 9 = -1
    · obtain ⟨a1, a2, a3⟩ := h1 e
      refine ⟨a1, fun _ => ?_, fun q => absurd e q⟩
      have a3' := a3
      unfold RMw jFill
      rw [show FX3_fillBuffer x (W (4 + 10 * 1)) (W (6 + 10 * 1)) (W (7 + 10 * 1)) (W (8 + 10 * 1)) (W (9 + 10 * 1)) (W (10 + 10 * 1)) (W (11 + 10 * 1 + 1)) = _ from a2]
      exact a3
    · obtain ⟨a1, a2, a3, r, g1, b1, b2, b3, b4, b5, b6⟩ := h2 e
      have hR : RMw (jFill W 1 (11 + 10 * 1 + 1) x) 1 g1 := by
        unfold RMw jFill
        rw [show FX3_fillBuffer x (W (4 + 10 * 1)) (W (6 + 10 * 1)) (W (7 + 10 * 1)) (W (8 + 10 * 1)) (W (9 + 10 * 1)) (W (10 + 10 * 1)) (W (11 + 10 * 1 + 1)) = r from b1]
        rw [← b3] at b2
        exact b2
      refine ⟨a1, fun q => absurd q e, fun _ => ?_⟩
      have a2 : OX10_at (W (11 + 10 * 1 + 1) 9 / 2 - 3) (fb F 0) (emb (174 * 1) n (gIn 1 x g)) := a2
      have a3 : FX10_at (W (11 + 10 * 1 + 1) 9 / 2 - 3) (fb F 0) (emb (174 * 1) n (gIn 1 x g)) = _ := a3
      by_cases e2 : W 16 (W 22 9 / 2 - 3).toNatClampNeg = -2
      · obtain ⟨c1, c2⟩ := b4 e2
        have e3 : ¬ W 16 (W 22 9 / 2 - 3).toNatClampNeg = -3 := fun q => by rw [q] at e2; exact absurd e2 (by decide)
        have c1 : OX10_lay (W (11 + 10 * 1 + 1) 9 / 2 - 3) (-4) (fb F 0) (emb (174 * 1) n (gIn 1 x g)) := c1
        have c2 : FX10_lay (W (11 + 10 * 1 + 1) 9 / 2 - 3) (-4) (fb F 0) (emb (174 * 1) n (gIn 1 x g)) = _ := c2
        refine ⟨?_, g1, ?_, hR⟩
        · unfold OtIn
          (try dsimp only)
          rw [a3]
          exact ⟨a2, fun _ => ⟨c1, fun q => absurd q e3, fun _ => trivial⟩, fun q => absurd e2 q⟩
        · unfold tIn
          (try dsimp only)
          rw [a3]
          dsimp only
          rw [if_pos e2, if_neg e3, c2]
      · by_cases e3 : W 16 (W 22 9 / 2 - 3).toNatClampNeg = -3
        · obtain ⟨c1, g2, c2, c3, c4⟩ := b5 e3
          have c1 : OX10_lay (W (11 + 10 * 1 + 1) 9 / 2 - 3) (-4) (fb F 0) (emb (174 * 1) n (gIn 1 x g)) := c1
          have c2 : FX10_lay (W (11 + 10 * 1 + 1) 9 / 2 - 3) (-4) (fb F 0) (emb (174 * 1) n (gIn 1 x g)) = _ := c2
          refine ⟨?_, g1, ?_, hR⟩
          · unfold OtIn
            (try dsimp only)
            rw [a3]
            dsimp only
            rw [c2]
            exact ⟨a2, fun q => absurd q e2, fun _ => ⟨fun _ => ⟨c1, fun _ => c3, fun q => absurd e3 q⟩, fun q => absurd e3 q⟩⟩
          · unfold tIn
            (try dsimp only)
            rw [a3]
            dsimp only
            rw [if_neg e2, if_pos e3, if_pos e3, c2]
            dsimp only
            exact (congrArg (fun u : Int32 × mF × mF => ((0 : Int32), u.2.1, u.2.2)) c4)
        · have c := b6 e2 e3
          refine ⟨?_, g1, ?_, hR⟩
          · unfold OtIn
            (try dsimp only)
            rw [a3]
            exact ⟨a2, fun q => absurd q e2, fun _ => ⟨fun q => absurd q e3, fun _ => ⟨fun q => absurd q e3, fun _ => trivial⟩⟩⟩
          · unfold tIn
            (try dsimp only)
            rw [a3]
            dsimp only
            rw [if_neg e2, if_neg e3, if_neg e3, c]
            rfl
end STP
