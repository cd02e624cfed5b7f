/-! PURE: the steps of a join that empty a buffer and end a sending, on a world of rows (GENERATED, wip/gen/p/48.py) -/
theorem emb_ai {b j k : Nat} {n g : mF} (e : j = b + k) (h : k < 174) : emb b n g j = g k := by
  rw [e]
  exact emb_at h
theorem emb_ui {b j k : Nat} {n g : mF} {x : Int32} (e : j = b + k) (h : k < 174) : upd (emb b n g) j x = emb b n (upd g k x) := by
  rw [e]
  exact emb_upd h
/-- what the emptying lays into the block -/
def gEm (i a : Nat) (g : mF) : mF := upd (upd (upd (upd (upd g a (g (162 + 10 * i))) (159 + 10 * i) (g (159 + 10 * i) + 1)) (160 + 10 * i) (g (160 + 10 * i) - 1)) (161 + 10 * i) 0) (162 + 10 * i) 0
theorem wOut_e {m i a : Nat} {n g : mF} (hm : m < 2) (hi : i < 2) (ha : a < 96) : wOut (174 * m + 154 + 10 * i) (174 * m + a) (emb (174 * m) n g) = emb (174 * m) n (gEm i a g) := by
  unfold wOut gEm
  rw [emb_ai (k := 162 + 10 * i) (by omega) (by omega), emb_ai (k := 159 + 10 * i) (by omega) (by omega), emb_ai (k := 160 + 10 * i) (by omega) (by omega), emb_ui (k := a) rfl (by omega), emb_ui (k := 159 + 10 * i) (by omega) (by omega), emb_ui (k := 160 + 10 * i) (by omega) (by omega), emb_ui (k := 161 + 10 * i) (by omega) (by omega), emb_ui (k := 162 + 10 * i) (by omega) (by omega)]
theorem jEmp_N {W : Nat → mF} {r N : Nat} : jEmp W r N N 7 = 0 ∧ ∀ k, k < 4 → jEmp W r N N k = W N k := by
  unfold jEmp
  (try dsimp only)
  rw [uw_s]
  unfold FX3_emptyBuffer
  dsimp only
  split
  · refine ⟨rfl, fun k hk => ?_⟩
    show upd (upd (upd (upd (upd (upd (W N) 7 0) 5 _) 6 _) 4 (-1)) 5 0) 6 0 k = W N k
    rw [pk_un (by omega), pk_un (by omega), pk_un (by omega), pk_un (by omega), pk_un (by omega), pk_un (by omega)]
  · refine ⟨rfl, fun k hk => ?_⟩
    show upd (upd (upd (W N) 7 0) 5 _) 6 _ k = W N k
    rw [pk_un (by omega), pk_un (by omega), pk_un (by omega)]
section STQ
variable {W : Nat → mF} {F f n g : mF} {m i : Nat}
theorem s_empty (H : Hb F (174 * m)) (hm : m < 2) (hi : i < 2) (h : RMw W m g) (h7 : W (11 + 10 * m + i) 7 = 1) (h4 : ¬ W (11 + 10 * m + i) 4 = -1) : ∃ a : Nat, a < 96 ∧ W (11 + 10 * m + i) 5 = nI a ∧ g (159 + 10 * i) = nI a ∧ g (160 + 10 * i) = W (11 + 10 * m + i) 6 ∧ OX3_emptyBuffer (W (4 + 10 * m)) (W (6 + 10 * m)) (W (11 + 10 * m + i)) ∧ (W (11 + 10 * m + i) 6 - 1 = 0 → OX10_schedule (W (11 + 10 * m + i) 4) (fb F 0) (emb (174 * m) n (upd (gEm i a g) (158 + 10 * i) (-1))) ∧ ∃ g1, FX10_schedule (W (11 + 10 * m + i) 4) (fb F 0) (emb (174 * m) n (upd (gEm i a g) (158 + 10 * i) (-1))) = (0, fb F 0, emb (174 * m) n g1) ∧ RMw (jEmp W m (11 + 10 * m + i)) m g1) ∧ (¬ W (11 + 10 * m + i) 6 - 1 = 0 → RMw (jEmp W m (11 + 10 * m + i)) m (gEm i a g)) := by
  have hl := RMw_lk h hi
  obtain ⟨-, ⟨-, d2, -⟩, ⟨-, -, d5⟩, -⟩ := hl
  obtain ⟨-, c5, c6, -⟩ := d2 h4
  have c8 := d5 h7
  have c5 : g (159 + 10 * i) = W (11 + 10 * m + i) 5 := by rw [show 159 + 10 * i = 154 + 10 * i + 5 by omega]; exact c5
  have c6 : g (160 + 10 * i) = W (11 + 10 * m + i) 6 := by rw [show 160 + 10 * i = 154 + 10 * i + 6 by omega]; exact c6
  have c8 : g (162 + 10 * i) = W (11 + 10 * m + i) 8 := by rw [show 162 + 10 * i = 154 + 10 * i + 8 by omega]; exact c8
  unfold gEm
  rw [c5, c6, c8]
  rcases (show m = 0 ∨ m = 1 by omega) with rfl | rfl <;> rcases (show i = 0 ∨ i = 1 by omega) with rfl | rfl
  · obtain ⟨a, a1, a2, a3, a4, a5⟩ := p_empty0 (n := n) H h h7 h4
    refine ⟨a, a1, a2, a2, rfl, ?_, fun q => ?_, fun q => ?_⟩
    · by_cases q : W 11 6 - 1 = 0
      · exact (a4 q).1
      · exact (a5 q).1
    · obtain ⟨-, b2, r, g1, b3, b4, b5, b6, -⟩ := a4 q
      refine ⟨b2, g1, b4, ?_⟩
      unfold RMw jEmp
      rw [show FX3_emptyBuffer (W (4 + 10 * 0)) (W (6 + 10 * 0)) (W (11 + 10 * 0 + 0)) = r from b3]
      rw [← b6] at b5
      exact b5
    · obtain ⟨-, b2, b3⟩ := a5 q
      unfold RMw jEmp
      rw [show FX3_emptyBuffer (W (4 + 10 * 0)) (W (6 + 10 * 0)) (W (11 + 10 * 0 + 0)) = _ from b2]
      exact b3
  · obtain ⟨a, a1, a2, a3, a4, a5⟩ := p_empty1 (n := n) H h h7 h4
    refine ⟨a, a1, a2, a2, rfl, ?_, fun q => ?_, fun q => ?_⟩
    · by_cases q : W 12 6 - 1 = 0
      · exact (a4 q).1
      · exact (a5 q).1
    · obtain ⟨-, b2, r, g1, b3, b4, b5, b6, -⟩ := a4 q
      refine ⟨b2, g1, b4, ?_⟩
      unfold RMw jEmp
      rw [show FX3_emptyBuffer (W (4 + 10 * 0)) (W (6 + 10 * 0)) (W (11 + 10 * 0 + 1)) = r from b3]
      rw [← b6] at b5
      exact b5
    · obtain ⟨-, b2, b3⟩ := a5 q
      unfold RMw jEmp
      rw [show FX3_emptyBuffer (W (4 + 10 * 0)) (W (6 + 10 * 0)) (W (11 + 10 * 0 + 1)) = _ from b2]
      exact b3
  · obtain ⟨a, a1, a2, a3, a4, a5⟩ := p_empty0 (n := n) H h h7 h4
    refine ⟨a, a1, a2, a2, rfl, ?_, fun q => ?_, fun q => ?_⟩
    · by_cases q : W 21 6 - 1 = 0
      · exact (a4 q).1
      · exact (a5 q).1
    · obtain ⟨-, b2, r, g1, b3, b4, b5, b6, -⟩ := a4 q
      refine ⟨b2, g1, b4, ?_⟩
      unfold RMw jEmp
      rw [show FX3_emptyBuffer (W (4 + 10 * 1)) (W (6 + 10 * 1)) (W (11 + 10 * 1 + 0)) = r from b3]
      rw [← b6] at b5
      exact b5
    · obtain ⟨-, b2, b3⟩ := a5 q
      unfold RMw jEmp
      rw [show FX3_emptyBuffer (W (4 + 10 * 1)) (W (6 + 10 * 1)) (W (11 + 10 * 1 + 0)) = _ from b2]
      exact b3
  · obtain ⟨a, a1, a2, a3, a4, a5⟩ := p_empty1 (n := n) H h h7 h4
    refine ⟨a, a1, a2, a2, rfl, ?_, fun q => ?_, fun q => ?_⟩
    · by_cases q : W 22 6 - 1 = 0
      · exact (a4 q).1
      · exact (a5 q).1
    · obtain ⟨-, b2, r, g1, b3, b4, b5, b6, -⟩ := a4 q
      refine ⟨b2, g1, b4, ?_⟩
      unfold RMw jEmp
      rw [show FX3_emptyBuffer (W (4 + 10 * 1)) (W (6 + 10 * 1)) (W (11 + 10 * 1 + 1)) = r from b3]
      rw [← b6] at b5
      exact b5
    · obtain ⟨-, b2, b3⟩ := a5 q
      unfold RMw jEmp
      rw [show FX3_emptyBuffer (W (4 + 10 * 1)) (W (6 + 10 * 1)) (W (11 + 10 * 1 + 1)) = _ from b2]
      exact b3
theorem s_sched (H : Hb F (174 * m)) (hm : m < 2) (hi : i < 2) (h : RMw W m g) (h0 : ¬ W (11 + 10 * m + i) 0 = -1) (ms ml p : Int32) : g (154 + 10 * i) = W (11 + 10 * m + i) 0 ∧ g (156 + 10 * i) = W (11 + 10 * m + i) 2 ∧ g (157 + 10 * i) = W (11 + 10 * m + i) 3 ∧ OX3_schedule (W (11 + 10 * m + i) 0) (W (4 + 10 * m)) (W (6 + 10 * m)) ∧ OX10_schedule (W (11 + 10 * m + i) 0) (fb F 0) (emb (174 * m) n (upd g (154 + 10 * i) (-1))) ∧ ∃ g1, FX10_schedule (W (11 + 10 * m + i) 0) (fb F 0) (emb (174 * m) n (upd g (154 + 10 * i) (-1))) = (0, fb F 0, emb (174 * m) n g1) ∧ RMw (jDone ms ml p W m (11 + 10 * m + i)) m g1 ∧ ∀ k, 102 ≤ k → g1 k = upd g (154 + 10 * i) (-1) k := by
  rcases (show m = 0 ∨ m = 1 by omega) with rfl | rfl <;> rcases (show i = 0 ∨ i = 1 by omega) with rfl | rfl
  · exact p_done0 H h h0
  · exact p_done1 H h h0
  · exact p_done0 H h h0
  · exact p_done1 H h h0
/-- a sending that ends -/
theorem s_done {T : Nat} {p : Int32} (hf : f 46 = 0) (hm : m < 2) (hi : i < 2) (h : RMw W m (fun k => n (174 * m + k))) (h0 : ¬ W (11 + 10 * m + i) 0 = -1) (h2 : W (11 + 10 * m + i) 2 = 0) (hD : RD (W 1) (W 2) n T) (hT : T < 2 ^ 30) : OX0_note (nI m) (nI i) (W (11 + 10 * m + i) 0) p (W (11 + 10 * m + i) 3) (W 1) (W 2) ∧ OX3_schedule (W (11 + 10 * m + i) 0) (W (4 + 10 * m)) (W (6 + 10 * m)) ∧ OtOut m i (174 * m + 154 + 10 * i) p f n ∧ ∃ n', tOut m i (174 * m + 154 + 10 * i) p f n = (0, upd f 45 (nI (174 * m)), n') ∧ RMw (jDone (nI m) (nI i) p W m (11 + 10 * m + i)) m (fun k => n' (174 * m + k)) ∧ RD (jDone (nI m) (nI i) p W m (11 + 10 * m + i) 1) (jDone (nI m) (nI i) p W m (11 + 10 * m + i) 2) n' (T + 1) ∧ ∀ k, (k < 174 * m ∨ 174 * m + 174 ≤ k) → k < 349 → n' k = n k := by
  have hb2 : 174 * m = 0 ∨ 174 * m = 174 := by omega
  have H : Hb (upd f 45 (nI (174 * m))) (174 * m) := ⟨pk_us, hb2⟩
  have eF : fb (upd f 45 (nI (174 * m))) 0 = upd f 45 (nI (174 * m)) := upd_self ((pk_un (by decide)).trans hf)
  have s := s_sched (n := n) H hm hi h h0 (nI m) (nI i) p
  rw [eF] at s
  obtain ⟨a1, a2, a3, a4, a5, g1, a6, a7, a8⟩ := s
  have a1 : n (174 * m + 154 + 10 * i) = W (11 + 10 * m + i) 0 := by rw [← a1]; exact congrArg n (by omega)
  have a2 : n (174 * m + 154 + 10 * i + 2) = W (11 + 10 * m + i) 2 := by rw [← a2]; exact congrArg n (by omega)
  have e0 : upd n (174 * m + 154 + 10 * i) (-1) = emb (174 * m) n (upd (fun k => n (174 * m + k)) (154 + 10 * i) (-1)) := by
    rw [← emb_ui (j := 174 * m + 154 + 10 * i) (by omega) (by omega), emb_self]
  have e3 : emb (174 * m) n g1 (174 * m + 154 + 10 * i + 3) = W (11 + 10 * m + i) 3 := by
    rw [emb_ai (k := 157 + 10 * i) (by omega) (by omega), a8 _ (by omega), pk_un (by omega)]
    exact a3
  have hD1 : RD (W 1) (W 2) (emb (174 * m) n g1) T := RD_c hD (Nat.le_refl _) (fun k hk => emb_out (by omega))
  have hf1 : upd f 45 (nI (174 * m)) 46 = 0 := (pk_un (by decide)).trans hf
  obtain ⟨b1, b2, n', b3, b4, b5⟩ := p_note hD1 hT hf1 (y1 := nI m) (y2 := nI i) (y3 := W (11 + 10 * m + i) 0) (y4 := p) (y5 := W (11 + 10 * m + i) 3)
  have hle : W (11 + 10 * m + i) 2 ≤ 0 := by rw [h2]; decide
  refine ⟨b1, a4, ?_, n', ?_, RMw_g a7 (fun k hk => ?_), ?_, fun k hk hk2 => ?_⟩
  · intro _ _
    rw [a1, e0]
    refine ⟨a5, ?_⟩
    dsimp only
    rw [a6]
    dsimp only
    rw [e3]
    exact b2
  · unfold tOut
    rw [a1, if_neg h0, a2, if_pos hle, e0]
    dsimp only
    rw [a6]
    dsimp only
    rw [e3, b3]
  · rw [b5 _ (by omega)]
    exact emb_at hk
  · have j1 : jDone (nI m) (nI i) p W m (11 + 10 * m + i) 1 = (FX0_note (nI m) (nI i) (W (11 + 10 * m + i) 0) p (W (11 + 10 * m + i) 3) (W 1) (W 2)).2.1 := by
      unfold jDone
      (try dsimp only)
      rw [uw_n (by omega), uw_n (by omega), uw_n (by omega), uw_n (by omega), uw_s]
    have j2 : jDone (nI m) (nI i) p W m (11 + 10 * m + i) 2 = (FX0_note (nI m) (nI i) (W (11 + 10 * m + i) 0) p (W (11 + 10 * m + i) 3) (W 1) (W 2)).2.2 := by
      unfold jDone
      (try dsimp only)
      rw [uw_n (by omega), uw_n (by omega), uw_n (by omega), uw_s]
    rw [j1, j2]
    exact b4
  · rw [b5 _ (by omega)]
    exact emb_out hk
/-- a sending that doesn't end -/
theorem s_not {p : Int32} {x : Nat} (h0 : ¬ n x = -1) (h2 : ¬ n (x + 2) ≤ 0) : OtOut m i x p f n ∧ tOut m i x p f n = (0, f, n) := by
  refine ⟨fun _ q => absurd q h2, ?_⟩
  unfold tOut
  rw [if_neg h0, if_neg h2]
theorem lk_le {l : mF} {o : Nat} (h : RLk l o g) (h0 : ¬ l 0 = -1) : l 2 = 0 ∨ ¬ l 2 ≤ 0 := by
  obtain ⟨-, -, -, -, a, c, -, e, hc, h8⟩ := h.1.2.1 h0
  rcases Nat.eq_zero_or_pos c with q | q
  · exact Or.inl (by rw [e, q]; rfl)
  · refine Or.inr ?_
    rw [e]
    exact nI_nle q (by omega)
end STQ
