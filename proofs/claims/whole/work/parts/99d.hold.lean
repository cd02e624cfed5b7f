/-! JOINT: what holds after an act (GENERATED, wip/gen/p/99d.py) -/
section ACT
variable {v : mV} {w : mX} {J pg T T' i : Nat} {C D U : Nat → mF} {h1 kq : mF} {E2 : List (Nat × mF)} {l : List Nat}
theorem slots_of {v2 : mV} {jn f1 ac : mF} {R : List (Nat × mF)} (h : RH J jn h1 (uS (fun j => wrO v (104 + 26 * j)) i C) f1 ac T') (hi : i < 8) (hb : ∀ j, j < 8 → wrO v (104 + 26 * j) 3 0 = 0 ∧ wrO v (104 + 26 * j) 13 0 = 1) (e : ∀ k, 104 ≤ k → k < 312 → v2 k = mE v (bE (104 + 26 * i) l19 C ++ R) k) (hR : ∀ x, x ∈ R → x.1 < 104) : RH J jn h1 (fun j => wrO v2 (104 + 26 * j)) f1 ac T' := by
  have out : ∀ j, j < 8 → ∀ c, c < 23 → mE v R (104 + 26 * j + wk c) = v (104 + 26 * j + wk c) := fun j _ c _ => mE_out R _ (fun x hx e => by have := hR x hx; omega)
  have ne : ∀ j, j < 8 → j ≠ i → ∀ c, c < 23 → wrO v2 (104 + 26 * j) c = wrO v (104 + 26 * j) c := fun j hj hn c hc => by
    have hw := wk_lt hc
    show v2 (104 + 26 * j + wk c) = v (104 + 26 * j + wk c)
    rw [e _ (by omega) (by omega), mE_blkO l19_lt (by omega)]
    exact out j hj c hc
  have no : ∀ c, c < 23 → c ∉ l19 → wrO v2 (104 + 26 * i) c = wrO v (104 + 26 * i) c := fun c hc hn => by
    have hw := wk_lt hc
    show v2 (104 + 26 * i + wk c) = v (104 + 26 * i + wk c)
    rw [e _ (by omega) (by omega), mE_blkN hn]
    exact out i hi c hc
  refine RH_of h (fun j hj c hc => ?_) (fun j hj => ?_)
  · have hc23 := l19_lt c hc
    have hw := wk_lt hc23
    by_cases q : j = i
    · subst q
      rw [uS_s]
      show v2 (104 + 26 * j + wk c) = C c
      rw [e _ (by omega) (by omega)]
      exact mE_blk l19 hc
    · rw [uS_n q]
      exact ne j hj q c hc23
  · by_cases q : j = i
    · subst q
      rw [no 3 (by decide) (by decide), no 13 (by decide) (by decide)]
      exact hb j hj
    · skip
      rw [ne j hj q 3 (by decide), ne j hj q 13 (by decide)]
      exact hb j hj
theorem kepts_of {v2 : mV} {jn : mF} (h : RK J jn (v 365) (fun k => wrO v (313 + 26 * k)) (v 393) (v 392) T) (hT : T ≤ T') (e : ∀ k, 312 ≤ k → k < 371 → v2 k = v k) (e1 : v2 393 = v 393) (e2 : v2 392 = v 392) : RK J jn (v2 365) (fun k => wrO v2 (313 + 26 * k)) (v2 393) (v2 392) T' := by
  have ne : ∀ j, j < 2 → ∀ c, c < 23 → wrO v2 (313 + 26 * j) c = wrO v (313 + 26 * j) c := fun j hj c hc => by
    have hw := wk_lt hc
    exact e _ (by omega) (by omega)
  rw [e1, e2, e 365 (by decide) (by decide)]
  refine RK_T (RK_of h (fun j hj c hc => ne j hj c (l19_lt c hc)) (fun j hj => ?_)) hT
  rw [ne j hj 3 (by decide), ne j hj 13 (by decide)]
  exact ⟨(h j hj).1, (h j hj).2.1⟩
/-- an act that is remembered -/
theorem IJ_act (h : IJ J v w pg T) (hp : pg = 22 ∨ pg = 36) (hT : T ≤ T') (hi : i < 8) (hl : ∀ c, c ∈ l → c < 23) (hD : ∀ c, c < 23 → c ∉ l → D c = v (50 + wk c)) (hU : ∀ c, c < 23 → D c = U c) (hE : ∀ x, x ∈ E2 → x.1 = 371 ∨ x.1 = 388 ∨ x.1 = 389 ∨ x.1 = 391 ∨ x.1 = 394) {v2 : mV} (e2 : v2 = mE (mE v (bE (104 + 26 * i) l19 C ++ (bE 50 l D ++ ([(102, h1)] ++ ([]))))) E2) (a1 : WI J (v 383) U (v2 388) T') (a2 : RH J (v 383) h1 (uS (fun j => wrO v (104 + 26 * j)) i C) (v2 371) (v2 391) T') (hf : FA (v 371) (v2 371)) : IJ J v2 w pg T' := by
  have lo : ∀ k, k < 371 → v2 k = mE v (bE (104 + 26 * i) l19 C ++ (bE 50 l D ++ ([(102, h1)] ++ ([])))) k := fun k hk => by
    rw [e2]
    exact mE_lo (fun x hx => by have := hE x hx; omega) hk
  have h102 : ∀ x, x ∈ ([(102, h1)] ++ ([] : List (Nat × mF))) → x.1 = 102 := fun x hx => by
    rcases List.mem_append.mp hx with q | q
    · rw [List.mem_singleton.mp q]
    · exact absurd q List.not_mem_nil
  have hR : ∀ x, x ∈ bE 50 l D ++ ([(102, h1)] ++ ([] : List (Nat × mF))) → x.1 < 104 ∧ 50 ≤ x.1 ∧ (x.1 < 76 ∨ x.1 = 102) := fun x hx => by
    rcases List.mem_append.mp hx with q | q
    · have := bE_key hl q; omega
    · have := h102 x q; omega
  have hA : ∀ x, x ∈ bE (104 + 26 * i) l19 C ++ (bE 50 l D ++ ([(102, h1)] ++ ([] : List (Nat × mF)))) → x.1 < 312 ∧ 50 ≤ x.1 ∧ ¬ (76 ≤ x.1 ∧ x.1 < 102) := fun x hx => by
    rcases List.mem_append.mp hx with q | q
    · have := bE_key l19_lt q; omega
    · have := hR x q; omega
  have out : ∀ k, k < 371 → (k < 50 ∨ (76 ≤ k ∧ k < 102) ∨ 312 ≤ k) → v2 k = v k := fun k hk hk2 => by
    rw [lo k hk]
    exact mE_out _ k (fun x hx e => by have := hA x hx; omega)
  have hi2 : ∀ k, 371 ≤ k → (k ≠ 371 ∧ k ≠ 388 ∧ k ≠ 389 ∧ k ≠ 391 ∧ k ≠ 394) → v2 k = v k := fun k hk hk2 => by
    rw [e2, mE_out E2 k (fun x hx e => by have := hE x hx; omega)]
    exact mE_out _ k (fun x hx e => by have := hA x hx; omega)
  have hW : ∀ c, c < 23 → wrO v2 50 c = U c := fun c hc => by
    have hw := wk_lt hc
    rw [← hU c hc, ← wr_blk (r := [(102, h1)] ++ ([])) hD (fun x hx => by have := h102 x hx; omega) c hc]
    show v2 (50 + wk c) = mE v (bE 50 l D ++ ([(102, h1)] ++ ([]))) (50 + wk c)
    rw [lo _ (by omega)]
    exact mE_blkO l19_lt (by omega)
  have q102 : v2 102 = h1 := by
    rw [lo 102 (by decide), mE_blkO l19_lt (by omega), mE_blkO hl (by omega)]
    exact mup_eq
  obtain ⟨L, K, s, i1, i2, i3, i4, i5, i6, i7, i8, i9⟩ := id h
  refine IJ_a h hp (WI_c a1 hW) ?_ (kepts_of i4 hT (fun k a b => out k b (by omega)) (hi2 393 (by decide) (by decide)) (hi2 392 (by decide) (by decide))) hf (fun k hk => out k (by omega) (by omega)) (out 80 (by decide) (by decide)) (out 91 (by decide) (by decide)) ⟨hi2 373 (by decide) (by decide), hi2 380 (by decide) (by decide), hi2 381 (by decide) (by decide), hi2 382 (by decide) (by decide), hi2 383 (by decide) (by decide)⟩
  rw [q102]
  exact slots_of a2 hi (RH_b i3) (fun k a b => lo k (by omega)) (fun x hx => (hR x hx).1)
/-- an act undone; what was kept comes back -/
theorem IJ_und (h : IJ J v w pg T) (hp : pg = 22 ∨ pg = 36) (hT : T ≤ T') (hD : C 3 = wrO v 50 3 ∧ C 13 = wrO v 50 13 ∧ C 5 = wrO v 50 5 ∧ C 15 = wrO v 50 15) (hE : ∀ x, x ∈ E2 → x.1 = 371 ∨ x.1 = 388) {v2 : mV} (e2 : v2 = mE (mE v (bE 50 l19 C ++ ([(102, h1)] ++ ([])))) E2) (a1 : WI J (v 383) C (v2 388) T') (a2 : RH J (v 383) h1 (fun j => wrO v (104 + 26 * j)) (v2 371) (v 391) T') (hf : FA (v 371) (v2 371)) : IJ J v2 w pg T' := by
  have lo : ∀ k, k < 371 → v2 k = mE v (bE 50 l19 C ++ ([(102, h1)] ++ ([]))) k := fun k hk => by
    rw [e2]
    exact mE_lo (fun x hx => by have := hE x hx; omega) hk
  have h102 : ∀ x, x ∈ ([(102, h1)] ++ ([] : List (Nat × mF))) → x.1 = 102 := fun x hx => by
    rcases List.mem_append.mp hx with q | q
    · rw [List.mem_singleton.mp q]
    · exact absurd q List.not_mem_nil
  have hA : ∀ x, x ∈ bE 50 l19 C ++ ([(102, h1)] ++ ([] : List (Nat × mF))) → x.1 < 104 ∧ 50 ≤ x.1 ∧ (x.1 < 76 ∨ x.1 = 102) := fun x hx => by
    rcases List.mem_append.mp hx with q | q
    · have := bE_key l19_lt q; omega
    · have := h102 x q; omega
  have out : ∀ k, k < 371 → (k < 50 ∨ (76 ≤ k ∧ k < 102) ∨ 103 ≤ k) → v2 k = v k := fun k hk hk2 => by
    rw [lo k hk]
    exact mE_out _ k (fun x hx e => by have := hA x hx; omega)
  have hi2 : ∀ k, 371 ≤ k → (k ≠ 371 ∧ k ≠ 388) → v2 k = v k := fun k hk hk2 => by
    rw [e2, mE_out E2 k (fun x hx e => by have := hE x hx; omega)]
    exact mE_out _ k (fun x hx e => by have := hA x hx; omega)
  have hD' : ∀ c, c < 23 → c ∉ l19 → C c = v (50 + wk c) := fun c hc hn => by
    rcases (show c = 3 ∨ c = 13 ∨ c = 5 ∨ c = 15 ∨ c ∈ l19 by
      revert c
      decide) with rfl | rfl | rfl | rfl | q
    · exact hD.1
    · exact hD.2.1
    · exact hD.2.2.1
    · exact hD.2.2.2
    · exact absurd q hn
  have hW : ∀ c, c < 23 → wrO v2 50 c = C c := fun c hc => by
    have hw := wk_lt hc
    rw [← wr_blk (r := [(102, h1)] ++ ([])) hD' (fun x hx => by have := h102 x hx; omega) c hc]
    exact lo _ (by omega)
  have q102 : v2 102 = h1 := by
    rw [lo 102 (by decide), mE_blkO l19_lt (by omega)]
    exact mup_eq
  obtain ⟨L, K, s, i1, i2, i3, i4, i5, i6, i7, i8, i9⟩ := id h
  refine IJ_a h hp (WI_c a1 hW) ?_ (kepts_of i4 hT (fun k a b => out k b (by omega)) (hi2 393 (by decide) (by decide)) (hi2 392 (by decide) (by decide))) hf (fun k hk => out k (by omega) (by omega)) (out 80 (by decide) (by decide)) (out 91 (by decide) (by decide)) ⟨hi2 373 (by decide) (by decide), hi2 380 (by decide) (by decide), hi2 381 (by decide) (by decide), hi2 382 (by decide) (by decide), hi2 383 (by decide) (by decide)⟩
  rw [q102, hi2 391 (by decide) (by decide)]
  have ne : ∀ j, j < 8 → ∀ c, c < 23 → wrO v2 (104 + 26 * j) c = wrO v (104 + 26 * j) c := fun j hj c hc => by
    have hw := wk_lt hc
    exact out _ (by omega) (by omega)
  refine RH_of a2 (fun j hj c hc => ne j hj c (l19_lt c hc)) (fun j hj => ?_)
  rw [ne j hj 3 (by decide), ne j hj 13 (by decide)]
  exact RH_b i3 j hj
/-- kept -/
theorem IJ_keep (h : IJ J v w pg T) (hp : pg = 22 ∨ pg = 36) (hT : T ≤ T') (hE : ∀ x, x ∈ E2 → x.1 = 371 ∨ x.1 = 392 ∨ x.1 = 393) {v2 : mV} (e2 : v2 = mE (mE v (bE 313 l19 C ++ (bE 339 l19 D ++ ([(365, kq)] ++ ([]))))) E2) (a1 : RK J (v 383) kq (fun k => if k = 0 then C else if k = 1 then D else wrO v (313 + 26 * k)) (v2 393) (v2 392) T') (hf : FE (v 371) (v2 371)) : IJ J v2 w pg T' := by
  have lo : ∀ k, k < 371 → v2 k = mE v (bE 313 l19 C ++ (bE 339 l19 D ++ ([(365, kq)] ++ ([])))) k := fun k hk => by
    rw [e2]
    exact mE_lo (fun x hx => by have := hE x hx; omega) hk
  have h365 : ∀ x, x ∈ ([(365, kq)] ++ ([] : List (Nat × mF))) → x.1 = 365 := fun x hx => by
    rcases List.mem_append.mp hx with q | q
    · rw [List.mem_singleton.mp q]
    · exact absurd q List.not_mem_nil
  have hA : ∀ x, x ∈ bE 313 l19 C ++ (bE 339 l19 D ++ ([(365, kq)] ++ ([] : List (Nat × mF)))) → 313 ≤ x.1 ∧ x.1 < 371 := fun x hx => by
    rcases List.mem_append.mp hx with q | q
    · have := bE_key l19_lt q; omega
    · rcases List.mem_append.mp q with q | q
      · have := bE_key l19_lt q; omega
      · have := h365 x q; omega
  have out : ∀ k, k < 313 → v2 k = v k := fun k hk => by
    rw [lo k (by omega)]
    exact mE_out _ k (fun x hx e => by have := hA x hx; omega)
  have hi2 : ∀ k, 371 ≤ k → (k ≠ 371 ∧ k ≠ 392 ∧ k ≠ 393) → v2 k = v k := fun k hk hk2 => by
    rw [e2, mE_out E2 k (fun x hx e => by have := hE x hx; omega)]
    exact mE_out _ k (fun x hx e => by have := hA x hx; omega)
  have q365 : v2 365 = kq := by
    rw [lo 365 (by decide), mE_blkO l19_lt (by omega), mE_blkO l19_lt (by omega)]
    exact mup_eq
  have k0 : ∀ c, c < 23 → wrO v2 313 c = mE v (bE 313 l19 C ++ (bE 339 l19 D ++ ([(365, kq)] ++ ([])))) (313 + wk c) := fun c hc => lo _ (by have := wk_lt hc; omega)
  have k1 : ∀ c, c < 23 → wrO v2 339 c = mE v (bE 339 l19 D ++ ([(365, kq)] ++ ([]))) (339 + wk c) := fun c hc => by
    have hw := wk_lt hc
    show v2 (339 + wk c) = _
    rw [lo _ (by omega)]
    exact mE_blkO l19_lt (by omega)
  have k0n : ∀ c, c < 23 → c ∉ l19 → wrO v2 313 c = v (313 + wk c) := fun c hc hn => by
    have hw := wk_lt hc
    rw [k0 c hc, mE_blkN hn, mE_blkO l19_lt (by omega)]
    exact mE_out _ _ (fun x hx e => by have := h365 x hx; omega)
  have k1n : ∀ c, c < 23 → c ∉ l19 → wrO v2 339 c = v (339 + wk c) := fun c hc hn => by
    have hw := wk_lt hc
    rw [k1 c hc, mE_blkN hn]
    exact mE_out _ _ (fun x hx e => by have := h365 x hx; omega)
  obtain ⟨L, K, s, i1, i2, i3, i4, i5, i6, i7, i8, i9⟩ := id h
  have f44 : v2 371 44 = v 371 44 := hf 44 (by decide) (by decide) (by decide)
  have ne : ∀ j, j < 8 → ∀ c, c < 23 → wrO v2 (104 + 26 * j) c = wrO v (104 + 26 * j) c := fun j hj c hc => by
    have hw := wk_lt hc
    exact out _ (by omega)
  refine IJ_a h hp ?_ ?_ ?_ (FE_A hf) (fun k hk => out k (by omega)) (out 80 (by decide)) (out 91 (by decide)) ⟨hi2 373 (by decide) (by decide), hi2 380 (by decide) (by decide), hi2 381 (by decide) (by decide), hi2 382 (by decide) (by decide), hi2 383 (by decide) (by decide)⟩
  · rw [hi2 388 (by decide) (by decide)]
    exact WI_T (WI_c i1 (fun c hc => out _ (by have := wk_lt hc; omega))) hT
  · rw [hi2 391 (by decide) (by decide), out 102 (by decide)]
    refine RH_T (RH_f (RH_of i3 (fun j hj c hc => ne j hj c (l19_lt c hc)) (fun j hj => ?_)) f44) hT
    rw [ne j hj 3 (by decide), ne j hj 13 (by decide)]
    exact RH_b i3 j hj
  · rw [q365]
    refine RK_of a1 (fun j hj c hc => ?_) (fun j hj => ?_)
    · rcases (show j = 0 ∨ j = 1 by omega) with rfl | rfl
      · exact (k0 c (l19_lt c hc)).trans (mE_blk l19 hc)
      · exact (k1 c (l19_lt c hc)).trans (mE_blk l19 hc)
    · rcases (show j = 0 ∨ j = 1 by omega) with rfl | rfl
      · have q := i4 0 (by decide)
        refine ⟨?_, ?_⟩
        · show wrO v2 313 3 0 = 0
          rw [k0n 3 (by decide) (by decide)]
          exact q.1
        · show wrO v2 313 13 0 = 1
          rw [k0n 13 (by decide) (by decide)]
          exact q.2.1
      · have q := i4 1 (by decide)
        refine ⟨?_, ?_⟩
        · show wrO v2 339 3 0 = 0
          rw [k1n 3 (by decide) (by decide)]
          exact q.1
        · show wrO v2 339 13 0 = 1
          rw [k1n 13 (by decide) (by decide)]
          exact q.2.1
/-- the tape -/
theorem IJ_tape {v2 : mV} {s' : Nat} (h : IJ J v w pg T) (hp : pg = 22 ∨ pg = 36) (hT : T ≤ T') (ha : ∀ k, k ≠ 0 → k ≠ 1 → k ≠ 371 → k ≠ 373 → v2 k = v k) (hf : ∀ k, k ≠ 0 → k ≠ 4 → v2 371 k = v 371 k) (a1 : s' ≤ 700 ∧ v2 0 1 = nI s' ∧ v2 371 4 = nI s' ∧ TP (v2 1) (v2 373)) : IJ J v2 w pg T' := by
  obtain ⟨L, K, s, i1, i2, i3, i4, i5, i6, i7, i8, i9⟩ := h
  have f33 : v2 371 33 = v 371 33 := hf 33 (by decide) (by decide)
  have f34 : v2 371 34 = v 371 34 := hf 34 (by decide) (by decide)
  have f35 : v2 371 35 = v 371 35 := hf 35 (by decide) (by decide)
  have f44 : v2 371 44 = v 371 44 := hf 44 (by decide) (by decide)
  have ee : ∀ k, 2 ≤ k → k < 371 ∨ 373 < k → v2 k = v k := fun k a b => ha k (by omega) (by omega) (by omega) (by omega)
  have ne : ∀ j, j < 8 → ∀ c, c < 23 → wrO v2 (104 + 26 * j) c = wrO v (104 + 26 * j) c := fun j hj c hc => by
    have hw := wk_lt hc
    exact ee _ (by omega) (by omega)
  refine ⟨L, K, s', ?_, ?_, ?_, ?_, ?_, ?_, ?_, a1, ?_⟩
  · rw [ee 383 (by decide) (by decide), ee 388 (by decide) (by decide)]
    exact WI_T (WI_c i1 (fun c hc => ee _ (by omega) (by have := wk_lt hc; omega))) hT
  · rw [ee 80 (by decide) (by decide), ee 91 (by decide) (by decide)]
    exact i2
  · rw [ee 383 (by decide) (by decide), ee 391 (by decide) (by decide), ee 102 (by decide) (by decide)]
    refine RH_T (RH_f (RH_of i3 (fun j hj c hc => ne j hj c (l19_lt c hc)) (fun j hj => ?_)) f44) hT
    rw [ne j hj 3 (by decide), ne j hj 13 (by decide)]
    exact RH_b i3 j hj
  · rw [ee 383 (by decide) (by decide)]
    exact kepts_of i4 hT (fun k a b => ee k (by omega) (by omega)) (ee 393 (by decide) (by decide)) (ee 392 (by decide) (by decide))
  · rw [ee 383 (by decide) (by decide), ee 380 (by decide) (by decide), ee 381 (by decide) (by decide), ee pg (by omega) (by omega), ee (pg + 1) (by omega) (by omega), ee (pg + 2) (by omega) (by omega), ee (pg + 5) (by omega) (by omega), ee (pg + 6) (by omega) (by omega), ee (pg + 7) (by omega) (by omega), ee (pg + 8) (by omega) (by omega)]
    exact PC_f i5 f33 f35
  · rw [ee 380 (by decide) (by decide), ee 381 (by decide) (by decide), f33, ee pg (by omega) (by omega), ee (pg + 1) (by omega) (by omega), ee (pg + 2) (by omega) (by omega)]
    exact i6
  · rw [ee 382 (by decide) (by decide), f34, ee pg (by omega) (by omega), ee (pg + 4) (by omega) (by omega)]
    exact i7
  · rw [ee 3 (by decide) (by decide)]
    exact i9
end ACT
