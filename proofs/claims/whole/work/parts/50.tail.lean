/-! PURE: a join's turn on both sides (GENERATED, wip/gen/p/50.py) -/
def isLi (c : Nat) : Prop := c = 11 ∨ c = 12 ∨ c = 21 ∨ c = 22
def isKp (c : Nat) : Prop := c = 0 ∨ c = 3 ∨ c = 5 ∨ c = 13 ∨ c = 15
/-- what a join's turn leaves -/
def PJ (W W' : Nat → mF) (f f' n n' : mF) (O N T : Nat) : Prop := RW2 W' n' ∧ RD (W' 1) (W' 2) n' (T + 1) ∧ n' 348 = n 348 ∧ (∀ k, k ≠ 45 → f' k = f k) ∧ (∀ c, isKp c → W' c = W c) ∧ (∀ c, isLi c → c ≠ N → W' c 7 = W c 7) ∧ (∀ c, isLi c → c ≠ O → W' c 0 = W c 0) ∧ (W' N 7 = 1 → ¬ W' O 0 = -1)
section JTL
variable {W E : Nat → mF} {f joins n : mF} {s i r j k T : Nat}
theorem RW2_m {n1 : mF} (h : RW2 W n1) (hm : s < 2) : RMw W s (fun k => n1 (174 * s + k)) := h s hm
theorem lkx (h : RW2 W n) (hm : s < 2) (hi : i < 2) : RLk (W (11 + 10 * s + i)) (154 + 10 * i) (fun k => n (174 * s + k)) := RMw_lk (h s hm) hi
theorem lk0 (h : RW2 W n) (hm : s < 2) (hi : i < 2) : n (174 * s + 154 + 10 * i) = W (11 + 10 * s + i) 0 := by
  rw [← (lkx h hm hi).1.1]
  exact congrArg n (by omega)
theorem lk2 (h : RW2 W n) (hm : s < 2) (hi : i < 2) (h0 : ¬ W (11 + 10 * s + i) 0 = -1) : n (174 * s + 154 + 10 * i + 2) = W (11 + 10 * s + i) 2 := by
  rw [← ((lkx h hm hi).1.2.1 h0).2.2.1]
  exact congrArg n (by omega)
theorem lk4 (h : RW2 W n) (hm : s < 2) (hi : i < 2) : n (174 * s + 154 + 10 * i + 4) = W (11 + 10 * s + i) 4 := by
  rw [← (lkx h hm hi).2.1.1]
  exact congrArg n (by omega)
theorem lk7 (h : RW2 W n) (hm : s < 2) (hi : i < 2) : n (174 * s + 154 + 10 * i + 7) = W (11 + 10 * s + i) 7 ∧ (W (11 + 10 * s + i) 7 = 0 ∨ W (11 + 10 * s + i) 7 = 1) := by
  refine ⟨?_, (lkx h hm hi).2.2.1.2.1⟩
  rw [← (lkx h hm hi).2.2.1.1]
  exact congrArg n (by omega)
theorem lk9 (h : RW2 W n) (hm : s < 2) (hi : i < 2) : n (174 * s + 154 + 10 * i + 9) = W (11 + 10 * s + i) 9 := by
  rw [← (lkx h hm hi).2.2.2.1]
  exact congrArg n (by omega)
theorem isLi_of (hs : s < 2) (hi : i < 2) : isLi (11 + 10 * s + i) := by
  unfold isLi
  omega
/-- the end of a turn in which words came out -/
theorem p_fin {p : Int32} (hf : f 46 = 0) (hs : s < 2) (hi : i < 2) (h : RW2 E n) (hD : RD (E 1) (E 2) n T) (hT : T < 2 ^ 30) (h0 : ¬ E (11 + 10 * s + i) 0 = -1) : (E (11 + 10 * s + i) 2 = 0 → OX0_note (nI s) (nI i) (E (11 + 10 * s + i) 0) p (E (11 + 10 * s + i) 3) (E 1) (E 2) ∧ OX3_schedule (E (11 + 10 * s + i) 0) (E (4 + 10 * s)) (E (6 + 10 * s))) ∧ OtOut s i (174 * s + 154 + 10 * i) p f n ∧ ∃ W' f' n', (if E (11 + 10 * s + i) 2 = 0 then tJ (jDone (nI s) (nI i) p E s (11 + 10 * s + i)) else tJ E) = tJ W' ∧ tOut s i (174 * s + 154 + 10 * i) p f n = (0, f', n') ∧ RW2 W' n' ∧ RD (W' 1) (W' 2) n' (T + 1) ∧ n' 348 = n 348 ∧ (∀ k, k ≠ 45 → f' k = f k) ∧ (∀ c, isKp c → W' c = E c) ∧ (∀ c, isLi c → c ≠ 11 + 10 * s + i → W' c = E c) ∧ W' (11 + 10 * s + i) 7 = E (11 + 10 * s + i) 7 := by
  rcases lk_le (lkx h hs hi) h0 with e2 | e2
  · obtain ⟨a1, a2, a3, n', a4, a5, a6, a7⟩ := s_done (p := p) hf hs hi (h s hs) h0 e2 hD hT
    refine ⟨fun _ => ⟨a1, a2⟩, a3, _, _, n', if_pos e2, a4, ?_, a6, a7 348 (by omega) (by decide), fun k hk => pk_un hk, fun c hc => jDone_o (by unfold isKp at hc; omega) (by unfold isKp at hc; omega), fun c hc hO => jDone_o (by unfold isLi at hc; omega) hO, ?_⟩
    · intro q hq
      by_cases e : q = s
      · subst e
        exact a5
      · refine RMw_g (RMw_W (h q hq) (fun c x y => jDone_o (by omega) (by omega))) (fun k hk => a7 _ (by omega) (by omega))
    · unfold jDone
      (try dsimp only)
      rw [uw_s]
      rfl
  · have e2' : ¬ E (11 + 10 * s + i) 2 = 0 := fun q => e2 (by rw [q]; decide)
    obtain ⟨b1, b2⟩ := s_not (m := s) (i := i) (f := f) (n := n) (p := p) (x := 174 * s + 154 + 10 * i) (by rw [lk0 h hs hi]; exact h0) (by rw [lk2 h hs hi h0]; exact e2)
    exact ⟨fun q => absurd q e2', b1, E, f, n, if_neg e2', b2, h, RD_c hD (by omega) (fun _ _ => rfl), rfl, fun _ _ => rfl, fun _ _ => rfl, fun _ _ _ => rfl, rfl⟩
theorem p_tail {x : Int32} (hx : vp_in x 4) (hk : k < 4) (hf : f 46 = 0) (hs : s < 2) (hi : i < 2) (hr : r < 2) (hj : j < 2) (e1 : joins (2 * k) = nI (2 * s + i)) (e2 : joins (2 * k + 1) = nI (2 * r + j)) (h : RW2 W n) (hD : RD (W 1) (W 2) n T) (hT : T < 2 ^ 30) (hI : W (11 + 10 * r + j) 7 = 1 → ¬ W (11 + 10 * s + i) 0 = -1) : OjTail x (nI s) (nI i) s r (11 + 10 * s + i) (11 + 10 * r + j) W ∧ OgOut k (174 * s + 154 + 10 * i) (174 * r + 154 + 10 * j) f joins n ∧ ∃ W' f' n', jTail (nI s) (nI i) s r (11 + 10 * s + i) (11 + 10 * r + j) W = tJ W' ∧ gOut k (174 * s + 154 + 10 * i) (174 * r + 154 + 10 * j) f joins n = (0, f', n') ∧ PJ W W' f f' n n' (11 + 10 * s + i) (11 + 10 * r + j) T := by
  obtain ⟨n7, v7⟩ := lk7 h hr hj
  have n4 := lk4 h hr hj
  have z10 : ¬ (1 : Int32) = 0 := by decide
  have z01 : ¬ (0 : Int32) = 1 := by decide
  have stay : PJ W W f f n n (11 + 10 * s + i) (11 + 10 * r + j) T := ⟨h, RD_c hD (by omega) (fun _ _ => rfl), rfl, fun _ _ => rfl, fun _ _ => rfl, fun _ _ _ => rfl, fun _ _ _ => rfl, hI⟩
  by_cases c7 : W (11 + 10 * r + j) 7 = 0
  · have cr : FX2_canReceive (W (11 + 10 * r + j)) = 0 := if_pos c7
    have m7 : ¬ n (174 * r + 154 + 10 * j + 7) = 1 := by rw [n7, c7]; exact z01
    refine ⟨?_, fun q => absurd q m7, W, f, n, if_pos cr, if_neg m7, stay⟩
    exact ⟨fun _ => trivial, fun q => absurd cr q⟩
  · have d7 : W (11 + 10 * r + j) 7 = 1 := v7.resolve_left c7
    have m7 : n (174 * r + 154 + 10 * j + 7) = 1 := n7.trans d7
    by_cases c4 : W (11 + 10 * r + j) 4 = -1
    · have cr : FX2_canReceive (W (11 + 10 * r + j)) = 0 := (if_neg c7).trans (if_pos c4)
      have m4 : n (174 * r + 154 + 10 * j + 4) = -1 := n4.trans c4
      refine ⟨?_, fun _ q => absurd m4 q, W, f, n, if_pos cr, (if_pos m7).trans (if_pos m4), stay⟩
      exact ⟨fun _ => trivial, fun q => absurd cr q⟩
    · have cr : ¬ FX2_canReceive (W (11 + 10 * r + j)) = 0 := fun q => z10 (((if_neg c7).trans (if_neg c4)).symm.trans q)
      have m4 : ¬ n (174 * r + 154 + 10 * j + 4) = -1 := by rw [n4]; exact c4
      have hb2 : 174 * r = 0 ∨ 174 * r = 174 := by omega
      have H : Hb (upd f 45 (nI (174 * r))) (174 * r) := ⟨pk_us, hb2⟩
      have eF : fb (upd f 45 (nI (174 * r))) 0 = upd f 45 (nI (174 * r)) := upd_self ((pk_un (by decide)).trans hf)
      have sE := s_empty (n := n) H hr hj (h r hr) d7 c4
      rw [eF] at sE
      obtain ⟨a, ha, a1, a2, a3, a4, a5, a6⟩ := sE
      have ea : n (174 * r + 154 + 10 * j + 5) = nI a := by rw [← a2]; exact congrArg n (by omega)
      have e6 : n (174 * r + 154 + 10 * j + 6) = W (11 + 10 * r + j) 6 := by rw [← a3]; exact congrArg n (by omega)
      obtain ⟨q1, q2⟩ := p_outm (s := s) (i := i) (r := r) (j := j) (k := k) (joins := joins) (n := n) (f := f) (x := 174 * s + 154 + 10 * i) (y := 174 * r + 154 + 10 * j) (a := a) hk hs hi hr hj e1 e2 (by omega) (by omega) ha (fun q hq => by omega) ea
      rw [e6, n4] at q1 q2
      have ew : wOut (174 * r + 154 + 10 * j) (174 * r + a) n = emb (174 * r) n (gEm j a (fun k => n (174 * r + k))) := by
        have := wOut_e (n := n) (g := fun k => n (174 * r + k)) hr hj ha
        rw [emb_self] at this
        exact this
      have jE : ∀ q, q < 4 → jEmp W r (11 + 10 * r + j) (11 + 10 * s + i) q = W (11 + 10 * s + i) q := by
        intro q hq
        by_cases e : 11 + 10 * s + i = 11 + 10 * r + j
        · rw [e]
          exact jEmp_N.2 q hq
        · rw [jEmp_o (by omega) e]
      have jE0 : ¬ jEmp W r (11 + 10 * r + j) (11 + 10 * s + i) 0 = -1 := by
        rw [jE 0 (by decide)]
        exact hI d7
      have j1 : jEmp W r (11 + 10 * r + j) 1 = W 1 := jEmp_o (by omega) (by omega)
      have j2 : jEmp W r (11 + 10 * r + j) 2 = W 2 := jEmp_o (by omega) (by omega)
      -- what both cases of the emptying have
      have key : ∀ f1 n1, (∀ k, k ≠ 45 → f1 k = f k) → RW2 (jEmp W r (11 + 10 * r + j)) n1 → (∀ k, 348 ≤ k → n1 k = n k) → OjTail x (nI s) (nI i) s r (11 + 10 * s + i) (11 + 10 * r + j) W ∧ OtOut s i (174 * s + 154 + 10 * i) (W (11 + 10 * r + j) 4) f1 n1 ∧ ∃ W' f' n', jTail (nI s) (nI i) s r (11 + 10 * s + i) (11 + 10 * r + j) W = tJ W' ∧ tOut s i (174 * s + 154 + 10 * i) (W (11 + 10 * r + j) 4) f1 n1 = (0, f', n') ∧ PJ W W' f f' n n' (11 + 10 * s + i) (11 + 10 * r + j) T := by
        intro f1 n1 hf1 hR hn1
        have hD1 : RD (jEmp W r (11 + 10 * r + j) 1) (jEmp W r (11 + 10 * r + j) 2) n1 T := by
          rw [j1, j2]
          exact RD_c hD (Nat.le_refl _) (fun k hk => hn1 k (by omega))
        obtain ⟨b1, b2, W', f', n', b3, b4, b5, b6, b7, b8, b9, b10, b11⟩ := p_fin (p := W (11 + 10 * r + j) 4) ((hf1 46 (by decide)).trans hf) hs hi hR hD1 hT jE0
        refine ⟨?_, b2, W', f', n', (if_neg cr).trans b3, b4, b5, b6, b7.trans (hn1 348 (Nat.le_refl _)), fun k hk => (b8 k hk).trans (hf1 k hk), fun c hc => (b9 c hc).trans (jEmp_o (by unfold isKp at hc; omega) (by unfold isKp at hc; omega)), fun c hc hN => ?_, fun c hc hO => ?_, fun q => ?_⟩
        · refine ⟨fun q => absurd q cr, fun _ => ⟨a4, fun q => ?_, fun _ => trivial⟩⟩
          obtain ⟨t1, t2⟩ := b1 q
          exact ⟨hx, hx, t1, t2⟩
        · have eN : jEmp W r (11 + 10 * r + j) c = W c := jEmp_o (by unfold isLi at hc; omega) hN
          by_cases e : c = 11 + 10 * s + i
          · subst e
            rw [b11, eN]
          · rw [b10 c hc e, eN]
        · rw [b10 c hc hO]
          by_cases e : c = 11 + 10 * r + j
          · subst e
            exact jEmp_N.2 0 (by decide)
          · rw [jEmp_o (by unfold isLi at hc; omega) e]
        · exfalso
          have z7 : jEmp W r (11 + 10 * r + j) (11 + 10 * r + j) 7 = 0 := jEmp_N.1
          have w7 : W' (11 + 10 * r + j) 7 = 0 := by
            by_cases e : 11 + 10 * r + j = 11 + 10 * s + i
            · rw [e, b11, ← e]
              exact z7
            · rw [b10 _ (isLi_of hr hj) e]
              exact z7
          rw [w7] at q
          exact z01 q
      have hjW : ∀ c, c < 4 + 10 * r ∨ 13 + 10 * r ≤ c → jEmp W r (11 + 10 * r + j) c = W c := fun c hc => jEmp_o (by omega) (by omega)
      have fin : ∀ f1 n1, FX10_comesOut (nI k) (nI (174 * s + 154 + 10 * i)) (nI (174 * r + 154 + 10 * j)) f joins n = tOut s i (174 * s + 154 + 10 * i) (W (11 + 10 * r + j) 4) f1 n1 → (OtOut s i (174 * s + 154 + 10 * i) (W (11 + 10 * r + j) 4) f1 n1 → OX10_comesOut (nI k) (nI (174 * s + 154 + 10 * i)) (nI (174 * r + 154 + 10 * j)) f joins n) → (∀ k, k ≠ 45 → f1 k = f k) → RW2 (jEmp W r (11 + 10 * r + j)) n1 → (∀ k, 348 ≤ k → n1 k = n k) → OjTail x (nI s) (nI i) s r (11 + 10 * s + i) (11 + 10 * r + j) W ∧ OgOut k (174 * s + 154 + 10 * i) (174 * r + 154 + 10 * j) f joins n ∧ ∃ W' f' n', jTail (nI s) (nI i) s r (11 + 10 * s + i) (11 + 10 * r + j) W = tJ W' ∧ gOut k (174 * s + 154 + 10 * i) (174 * r + 154 + 10 * j) f joins n = (0, f', n') ∧ PJ W W' f f' n n' (11 + 10 * s + i) (11 + 10 * r + j) T := by
        intro f1 n1 hc hoc hf1 hR hn1
        obtain ⟨k1, k2, W', f', n', k3, k4, k5⟩ := key f1 n1 hf1 hR hn1
        refine ⟨k1, fun _ _ => hoc k2, W', f', n', k3, ?_, k5⟩
        unfold gOut
        rw [if_pos m7, if_neg m4]
        dsimp only
        rw [hc, k4]
      by_cases c6 : W (11 + 10 * r + j) 6 - 1 = 0
      · obtain ⟨t1, g1, t2, t3⟩ := a5 c6
        have eu : upd (wOut (174 * r + 154 + 10 * j) (174 * r + a) n) (174 * r + 154 + 10 * j + 4) (-1) = emb (174 * r) n (upd (gEm j a (fun k => n (174 * r + k))) (158 + 10 * j) (-1)) := by
          rw [ew]
          exact emb_ui (by omega) (by omega)
        rw [if_pos c6, eu] at q2
        dsimp only at q2
        rw [t2] at q2
        refine fin (upd f 45 (nI (174 * r))) (emb (174 * r) n g1) q2 (fun q => q1.mpr ⟨fun _ => ?_, fun z => absurd c6 z⟩) (fun k hk => pk_un hk) (RW2_set h hr hjW t3) (fun k hk => emb_out (by omega))
        rw [eu]
        refine ⟨t1, ?_⟩
        dsimp only
        rw [t2]
        exact q
      · have t3 := a6 c6
        rw [if_neg c6, ew] at q2
        refine fin f _ q2 (fun q => q1.mpr ⟨fun z => absurd z c6, fun _ => ?_⟩) (fun _ _ => rfl) (RW2_set h hr hjW t3) (fun k hk => emb_out (by omega))
        rw [ew]
        exact q
end JTL
