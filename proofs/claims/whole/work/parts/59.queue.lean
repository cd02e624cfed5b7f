/-! PURE: queues and stuck, asked on both sides (GENERATED, wip/gen/p/59.py) -/
section QUE
variable {f n reg mem : mF}
theorem q_end {fuel : Nat} {y1 y2 x p v : Int32} : OX10_queue_b3 (fuel + 1) y1 y2 x p v 0 f n ∧ FX10_queue_b3 (fuel + 1) y1 y2 x p v 0 f n = (if x = -1 then v else -2, f) := by
  rw [OX10_queue_b3, FX10_queue_b3]
  refine ⟨⟨fun _ => trivial, fun q => absurd rfl q⟩, ?_⟩
  rw [if_pos rfl]
  split <;> rfl
theorem q_end9 {fuel i : Nat} {x back p : Int32} (hi : i ≤ 48) (h : ¬ isP p ∨ i = 48) : OX3_inQueue_b1 (fuel + 1) x back p (nI i) reg mem ∧ FX3_inQueue_b1 (fuel + 1) x back p (nI i) reg mem = if x = -1 then nI i else -2 := by
  rw [OX3_inQueue_b1, FX3_inQueue_b1]
  by_cases c : (48 : Int32) ≤ nI i
  · rw [if_pos c]
    exact ⟨⟨fun _ => trivial, fun q => absurd c q⟩, rfl⟩
  · have hp : ¬ isP p := by
      rcases h with h | h
      · exact h
      · exact absurd (by rw [h]; exact nI_le (a := 48) (b := 48) (Nat.le_refl _) (by decide)) c
    rw [if_neg c]
    dsimp only
    rw [isProc9_0 hp, if_pos rfl]
    exact ⟨⟨fun q => absurd q c, fun _ => ⟨fun _ => trivial, fun q => absurd rfl q⟩⟩, rfl⟩
theorem l_queue {b q : Nat} {x y1 y2 back : Int32} (hb : b = 0 ∨ b = 174) (hq : q < 2) (e1 : FX10_base y1 = nI b) (e2 : y2 = nI q) (hM : ∀ k, k < 96 → n (b + k) = mem k) (eB : n (b + 100 + q) = back) : ∀ (m i fuel fuel' : Nat) (p : Int32), i + m + 1 = 48 → m + 3 < fuel → m + 3 < fuel' → isP p → OX3_inQueue_b1 fuel x back p (nI i) reg mem ∧ OX10_queue_b3 fuel' y1 y2 x p (nI i) 1 f n ∧ FX10_queue_b3 fuel' y1 y2 x p (nI i) 1 f n = (FX3_inQueue_b1 fuel x back p (nI i) reg mem, f) := by
  intro m
  induction m with
  | zero =>
    intro i fuel fuel' p hi h1 h2 hp
    obtain ⟨fuel, rfl⟩ : ∃ k, fuel = k + 2 := ⟨fuel - 2, by omega⟩
    obtain ⟨fuel', rfl⟩ : ∃ k, fuel' = k + 2 := ⟨fuel' - 2, by omega⟩
    have hi47 : i = 47 := by omega
    subst hi47
    have z10 : ¬ (1 : Int32) = 0 := by decide
    have c48 : ¬ (48 : Int32) ≤ nI 47 := by decide
    have d48 : (48 : Int32) ≤ nI 47 + 1 := by decide
    have i1 : (nI b + 100 + y2).toNatClampNeg = b + 100 + q := by
      rw [e2, show (100 : Int32) = nI 100 from rfl, nI_add, nI_add, nI_clamp (by omega)]
    have v1 : vp_in (nI b + 100 + y2) 532 := by
      rw [e2, show (100 : Int32) = nI 100 from rfl, nI_add, nI_add]
      exact vp_in_nI (by omega) (by decide)
    obtain ⟨wd, qq, w1, w2, -, -, w3, -⟩ := pDiv hp
    have v2 : vp_in (p / 2 - 2) 96 := by
      rw [w3, show (2 : Int32) = nI 2 from rfl, nI_sub (by omega)]
      exact vp_in_nI (by omega) (by decide)
    have t48 : nI 47 + 1 = nI 48 := nI_1 47
    have A := fun p' : Int32 => q_end9 (reg := reg) (mem := mem) (fuel := fuel) (i := 48) (x := x) (back := back) (p := p') (Nat.le_refl _) (Or.inr rfl)
    have B := q_end (f := f) (n := n) (fuel := fuel') (y1 := y1) (y2 := y2) (x := x) (p := p) (v := nI 48)
    rw [OX3_inQueue_b1, FX3_inQueue_b1, OX10_queue_b3, FX10_queue_b3, if_neg c48, if_neg z10, isProc9_1 hp, e1]
    dsimp only
    rw [if_neg z10, i1, eB, t48]
    rw [t48] at d48
    have ec : (nI 47 = x) = (nI 47 = x) := rfl
    refine ⟨⟨fun q => absurd q c48, fun _ => ⟨fun q => absurd q z10, fun _ => ⟨fun _ => trivial, fun _ => ⟨fun _ => (A _).1, fun _ => ⟨v2, (A _).1⟩⟩⟩⟩⟩, ⟨fun q => absurd q z10, fun _ => ⟨fun _ => trivial, fun _ => ⟨v1, fun _ => B.1, fun _ => ⟨fun _ => B.1, fun q => absurd d48 q⟩⟩⟩⟩, ?_⟩
    by_cases c1 : nI 47 = x
    · rw [if_pos c1, if_pos c1]
    · rw [if_neg c1, if_neg c1]
      by_cases c2 : p = back
      · rw [if_pos c2, if_pos c2, (A _).2]
        exact B.2
      · rw [if_neg c2, if_neg c2, if_pos d48, (A _).2]
        exact B.2
  | succ m ih =>
    intro i fuel fuel' p hi h1 h2 hp
    obtain ⟨fuel, rfl⟩ : ∃ k, fuel = k + 2 := ⟨fuel - 2, by omega⟩
    obtain ⟨fuel', rfl⟩ : ∃ k, fuel' = k + 2 := ⟨fuel' - 2, by omega⟩
    have z10 : ¬ (1 : Int32) = 0 := by decide
    have c48 : ¬ (48 : Int32) ≤ nI i := nI_ge (b := 48) (by omega) (by decide)
    have d48 : ¬ (48 : Int32) ≤ nI (i + 1) := nI_ge (b := 48) (by omega) (by decide)
    have i1 : (nI b + 100 + y2).toNatClampNeg = b + 100 + q := by
      rw [e2, show (100 : Int32) = nI 100 from rfl, nI_add, nI_add, nI_clamp (by omega)]
    have v1 : vp_in (nI b + 100 + y2) 532 := by
      rw [e2, show (100 : Int32) = nI 100 from rfl, nI_add, nI_add]
      exact vp_in_nI (by omega) (by decide)
    obtain ⟨wd, qq, w1, w2, -, -, w3, -⟩ := pDiv hp
    have v2 : vp_in (p / 2 - 2) 96 := by
      rw [w3, show (2 : Int32) = nI 2 from rfl, nI_sub (by omega)]
      exact vp_in_nI (by omega) (by decide)
    have i2 : (p / 2 - 2).toNatClampNeg = wd - 2 := by
      rw [w3, show (2 : Int32) = nI 2 from rfl, nI_sub (by omega), nI_clamp (by omega)]
    have i3 : (nI b + p / 2 - 2).toNatClampNeg = b + (wd - 2) := by
      rw [w3, nI_add, show (2 : Int32) = nI 2 from rfl, nI_sub (by omega), nI_clamp (by omega)]
      omega
    have v3 : vp_in (nI b + p / 2 - 2) 532 := by
      rw [w3, nI_add, show (2 : Int32) = nI 2 from rfl, nI_sub (by omega)]
      exact vp_in_nI (by omega) (by decide)
    have nm1 : ¬ isP (-1) := fun h => pNN h rfl
    have A := fun (p' : Int32) (h : ¬ isP p') => q_end9 (reg := reg) (mem := mem) (fuel := fuel) (i := i + 1) (x := x) (back := back) (p := p') (by omega) (Or.inl h)
    have B := fun p' : Int32 => q_end (f := f) (n := n) (fuel := fuel') (y1 := y1) (y2 := y2) (x := x) (p := p') (v := nI (i + 1))
    have C := fun h : isP (mem (wd - 2)) => ih (i + 1) (fuel + 1) (fuel' + 1) (mem (wd - 2)) (by omega) (by omega) (by omega) h
    have em : n (b + (wd - 2)) = mem (wd - 2) := hM _ (by omega)
    have on : OX3_inQueue_b1 (fuel + 1) x back (mem (wd - 2)) (nI (i + 1)) reg mem := by
      by_cases h : isP (mem (wd - 2))
      · exact (C h).1
      · exact (A _ h).1
    rw [OX3_inQueue_b1, FX3_inQueue_b1, OX10_queue_b3, FX10_queue_b3, if_neg c48, if_neg z10, isProc9_1 hp, e1]
    dsimp only
    rw [if_neg z10, i1, eB, nI_1, i2, i3, em]
    refine ⟨⟨fun q => absurd q c48, fun _ => ⟨fun q => absurd q z10, fun _ => ⟨fun _ => trivial, fun _ => ⟨fun _ => (A _ nm1).1, fun _ => ⟨v2, on⟩⟩⟩⟩⟩, ⟨fun q => absurd q z10, fun _ => ⟨fun _ => trivial, fun _ => ⟨v1, fun _ => (B _).1, fun _ => ⟨fun q => absurd q d48, fun _ => ⟨v3, oisP10 ▸ trivial, fun _ => (B _).1, fun hz => ?_⟩⟩⟩⟩⟩, ?_⟩
    · by_cases h : isP (mem (wd - 2))
      · exact (C h).2.1
      · exact absurd (isProc10_0 h) hz
    by_cases c1 : nI i = x
    · rw [if_pos c1, if_pos c1]
    · rw [if_neg c1, if_neg c1]
      by_cases c2 : p = back
      · rw [if_pos c2, if_pos c2, (A _ nm1).2]
        exact (B _).2
      · rw [if_neg c2, if_neg c2, if_neg d48]
        by_cases h : isP (mem (wd - 2))
        · rw [isProc10_1 h, if_neg z10]
          exact (C h).2.2
        · rw [isProc10_0 h, if_pos rfl, (A _ h).2]
          exact (B _).2
end QUE
section QUW
variable {W : Nat → mF} {f n : mF}
theorem c_queue {x y z : Int32} (h : RW2 W n) : OX9_queue x y z (W 4) (W 6) (W 14) (W 16) ∧ OX10_queue x y z f n ∧ ∃ f', FX10_queue x y z f n = (FX9_queue x y z (W 4) (W 6) (W 14) (W 16), f') ∧ FE f f' := by
  have z10 : ¬ (1 : Int32) = 0 := by decide
  rcases mach_c x with hx | ⟨h1, h2⟩
  · have hm9 : ¬ FX9_isMachine x = 0 := by rcases hx with rfl | rfl <;> decide
    have hm10 : ¬ FX10_isMachine x = 0 := by rcases hx with rfl | rfl <;> decide
    have vx : vp_in x 2 := by rcases hx with rfl | rfl <;> first | exact vp02 | exact vp12
    by_cases hy : y = 0 ∨ y = 1
    · have hy9 : ¬ FX9_isPriority y = 0 := by rcases hy with rfl | rfl <;> decide
      have hy10 : ¬ FX10_isIn y 0 1 = 0 := by rcases hy with rfl | rfl <;> decide
      obtain ⟨q, hq, eq⟩ : ∃ q : Nat, q < 2 ∧ y = nI q := by
        rcases hy with e | e
        · exact ⟨0, by decide, e.trans nI_0.symm⟩
        · exact ⟨1, by decide, e.trans (by decide)⟩
      have key : ∀ m, m < 2 → FX10_base x = nI (174 * m) → OX3_inQueue y z (W (4 + 10 * m)) (W (6 + 10 * m)) ∧ OX10_queue x y z f n ∧ FX10_queue x y z f n = (FX3_inQueue y z (W (4 + 10 * m)) (W (6 + 10 * m)), upd f 0 0) := by
        intro m hm eb
        obtain ⟨-, hM, ⟨a1, a2, a3, a4⟩, -⟩ := h m hm
        have i14 : (14 + y).toNatClampNeg = 14 + q := by rw [eq, show (14 : Int32) = nI 14 from rfl, nI_add, nI_clamp (by omega)]
        have i16 : (16 + y).toNatClampNeg = 16 + q := by rw [eq, show (16 : Int32) = nI 16 from rfl, nI_add, nI_clamp (by omega)]
        have v14 : vp_in (14 + y) 20 := by rw [eq, show (14 : Int32) = nI 14 from rfl, nI_add]; exact vp_in_nI (by omega) (by decide)
        have v16 : vp_in (16 + y) 20 := by rw [eq, show (16 : Int32) = nI 16 from rfl, nI_add]; exact vp_in_nI (by omega) (by decide)
        have i98 : (nI (174 * m) + 98 + y).toNatClampNeg = 174 * m + 98 + q := by rw [eq, show (98 : Int32) = nI 98 from rfl, nI_add, nI_add, nI_clamp (by omega)]
        have v98 : vp_in (nI (174 * m) + 98 + y) 532 := by rw [eq, show (98 : Int32) = nI 98 from rfl, nI_add, nI_add]; exact vp_in_nI (by omega) (by decide)
        have ef : n (174 * m + 98 + q) = W (4 + 10 * m) (14 + q) ∧ (¬ W (4 + 10 * m) (14 + q) = -1 → n (174 * m + 100 + q) = W (4 + 10 * m) (16 + q)) := by
          rcases (show q = 0 ∨ q = 1 by omega) with rfl | rfl
          · exact ⟨a1, fun c => (a3 c).1⟩
          · exact ⟨a2, fun c => (a4 c).1⟩
        obtain ⟨f1, f2⟩ := ef
        by_cases hp : isP (W (4 + 10 * m) (14 + q))
        · obtain ⟨l1, l2, l3⟩ := l_queue (f := upd f 0 0) (n := n) (reg := W (4 + 10 * m)) (mem := W (6 + 10 * m)) (b := 174 * m) (q := q) (x := z) (y1 := x) (y2 := y) (back := W (4 + 10 * m) (16 + q)) (by omega) hq eb eq hM (f2 (pNN hp)) 47 0 10000 10000 (W (4 + 10 * m) (14 + q)) (by omega) (by omega) (by omega) hp
          rw [nI_0] at l1 l2 l3
          refine ⟨⟨v16, v14, ?_⟩, ⟨omach x, fun c => absurd c hm10, fun _ => ⟨fun c => absurd c hy10, fun _ => ?_⟩⟩, ?_⟩
          · rw [i14, i16]
            exact l1
          · rw [eb]
            refine ⟨v98, oisP10 ▸ trivial, ?_⟩
            rw [i98, f1, isProc10_1 hp]
            exact l2
          · unfold FX10_queue FX3_inQueue
            dsimp only
            rw [if_neg hm10, if_neg hy10, eb, i98, f1, isProc10_1 hp, i14, i16]
            exact l3
        · obtain ⟨l1, l2⟩ := q_end9 (reg := W (4 + 10 * m)) (mem := W (6 + 10 * m)) (fuel := 9999) (i := 0) (x := z) (back := W (4 + 10 * m) (16 + q)) (p := W (4 + 10 * m) (14 + q)) (by decide) (Or.inl hp)
          obtain ⟨l3, l4⟩ := q_end (f := upd f 0 0) (n := n) (fuel := 9999) (y1 := x) (y2 := y) (x := z) (p := W (4 + 10 * m) (14 + q)) (v := 0)
          rw [nI_0] at l1 l2
          refine ⟨⟨v16, v14, ?_⟩, ⟨omach x, fun c => absurd c hm10, fun _ => ⟨fun c => absurd c hy10, fun _ => ?_⟩⟩, ?_⟩
          · rw [i14, i16]
            exact l1
          · rw [eb]
            refine ⟨v98, oisP10 ▸ trivial, ?_⟩
            rw [i98, f1, isProc10_0 hp]
            exact l3
          · unfold FX10_queue FX3_inQueue
            dsimp only
            rw [if_neg hm10, if_neg hy10, eb, i98, f1, isProc10_0 hp, i14, i16]
            exact l4.trans (congrArg (fun v => (v, upd f 0 0)) l2.symm)
      rcases hx with rfl | rfl
      · obtain ⟨k1, k2, k3⟩ := key 0 (by decide) (by decide)
        have e : FX9_queue 0 y z (W 4) (W 6) (W 14) (W 16) = FX3_inQueue y z (W 4) (W 6) := by
          unfold FX9_queue
          dsimp only
          rw [if_neg hm9, if_neg hy9, if_pos rfl]
        rw [e]
        exact ⟨⟨fun c => absurd c hm9, fun _ => ⟨fun c => absurd c hy9, fun _ => ⟨vx, fun _ => k1, fun c => absurd rfl c⟩⟩⟩, k2, _, k3, FE_0⟩
      · obtain ⟨k1, k2, k3⟩ := key 1 (by decide) (by decide)
        have e : FX9_queue 1 y z (W 4) (W 6) (W 14) (W 16) = FX3_inQueue y z (W 14) (W 16) := by
          unfold FX9_queue
          dsimp only
          rw [if_neg hm9, if_neg hy9, if_neg z10]
        rw [e]
        exact ⟨⟨fun c => absurd c hm9, fun _ => ⟨fun c => absurd c hy9, fun _ => ⟨vx, fun c => absurd c z10, fun _ => k1⟩⟩⟩, k2, _, k3, FE_0⟩
    · have hy9 : FX9_isPriority y = 0 := by
        unfold FX9_isPriority
        rw [if_neg (fun c => hy (Or.inl c)), if_neg (fun c => hy (Or.inr c))]
      have hy10 : FX10_isIn y 0 1 = 0 := by
        rcases bit_c y with c | c
        · exact absurd c hy
        · exact c.1
      refine ⟨⟨fun c => absurd c hm9, fun _ => ⟨fun _ => trivial, fun c => absurd hy9 c⟩⟩, ⟨omach x, fun c => absurd c hm10, fun _ => ⟨fun _ => trivial, fun c => absurd hy10 c⟩⟩, upd f 0 0, ?_, FE_0⟩
      unfold FX10_queue FX9_queue
      dsimp only
      rw [if_neg hm10, if_neg hm9, if_pos hy10, if_pos hy9]
  · refine ⟨⟨fun _ => trivial, fun c => absurd h2 c⟩, ⟨omach x, fun _ => trivial, fun c => absurd h1 c⟩, upd f 0 0, ?_, FE_0⟩
    unfold FX10_queue FX9_queue
    dsimp only
    rw [if_pos h1, if_pos h2]
end QUW
