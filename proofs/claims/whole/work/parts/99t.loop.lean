/-! THE LAW: its loop (GENERATED, wip/gen/p/99t.py) -/
theorem mt2 {a b : Prop} (h : a ↔ b) (n : ¬ a) : ¬ b := fun q => n (h.mpr q)
theorem l_gt {N q : Nat} (hN : N ≤ 3072) (hq : q ≤ 10000) : (Int32.ofNat N - 6 < nI q) ↔ N < q + 6 := by
  rcases Nat.lt_or_ge N 6 with h | h
  · have e : (Int32.ofNat N - 6).toInt < 0 := by
      match N, h with
      | 0, _ => decide
      | 1, _ => decide
      | 2, _ => decide
      | 3, _ => decide
      | 4, _ => decide
      | 5, _ => decide
    rw [Int32.lt_iff_toInt_lt, nI_toInt (by omega)]
    constructor
    · intro _; omega
    · intro _; omega
  · rw [show Int32.ofNat N - 6 = nI (N - 6) from nI_sub (a := N) (c := 6) h, nI_ltI (by omega) (by omega)]
    omega
section LCS
variable {p : Program} {l : Launch} {e : Env} {s : State} {m : MethodId} {below : List Frame} {meth : Method} {c : Code} {D : va_G} {ta : Nat → ClassId} {ad0 : Nat → Nat} {b N : Nat} {xs : Nat → Int32}
def lTs : List Nat := [160, 233, 258, 271, 339, 364, 401, 426, 451, 500, 561, 586, 599, 636, 704, 753, 802, 851, 888, 901, 938, 987, 1048, 1097, 1122, 1147]
set_option maxHeartbeats 4000000 in
/-- its end -/
theorem lw9_end (C : lC p l s m meth c D ta ad0 b N xs) {n0 s0 : Nat} {L : mL} {σ : mMH} (hn : n0 ≤ 601024) (hs : s0 ≤ 7293034) : lW p l e s m below meth c D ta ad0 b n0 s0 1178 L [] σ := by
  have S := C.1
  refine sl_0 (v := 1) (len := 1) S (by decide +kernel) ?_
  intro ad H locs ls cells slots a1 a2 a3 a4 a5 a6 a7 a8
  refine va_forget (fun q hq => a6.2.2 q hq) ?_
  refine W.widen (k := 601024) (n := 7293034) (by omega) (by omega) ?_
  exact lw_ret S.1 S.2.1 C.2.2.2.2.2.2.2.1 C.2.2.2.2.2.2.2.2.1 (by decide +kernel)
set_option maxHeartbeats 4000000 in
theorem lw9_loop (C : lC p l s m meth c D ta ad0 b N xs) : ∀ (r k T : Nat) (σ : mMH), N ≤ 6 * k + r → 6 * k ≤ N → T ≤ 1800 * k → JInv σ T → lW p l e s m below meth c D ta ad0 b (399 + k) (19538 + 6 * k) 23 (lL k) [] σ := by
  intro r
  induction r with
  | zero =>
    intro k T σ h1 h2 h3 hI
    have hN := C.2.2.2.2.2.2.2.2.2
    have hz := jI_len hI
    have S := C.1
    have hbA : ¬ lA s b := Nat.not_le.mpr C.2.2.2.2.1
    refine sl_1 (i := 4) (len := 2) S (by decide +kernel) rfl ?_
    refine sl_2 (i := 0) (len := 1) S (by decide +kernel) rfl ?_
    refine sl_len (len := 1) S C.2.2.2.1 C.2.2.2.2.1 hbA C.2.2.2.2.2.1 (by omega) (by decide +kernel) ?_
    refine sl_0 (v := 6) (len := 2) S (by decide +kernel) ?_
    refine sl_8 (b := 1) (len := 1) S (by decide +kernel) ?_
    refine sl_18 (b := 4) (tgt := 1178) (len := 3) S (by decide +kernel) (fun _ => lw9_end C (by omega) (by omega)) (fun h => ?_)
    have h9 := mt2 (l_gt (q := 6 * k) hN (by omega)) h
    omega
  | succ r ih =>
    intro k T σ h1 h2 h3 hI
    have hN := C.2.2.2.2.2.2.2.2.2
    have hz := jI_len hI
    have S := C.1
    have hbA : ¬ lA s b := Nat.not_le.mpr C.2.2.2.2.1
    refine sl_1 (i := 4) (len := 2) S (by decide +kernel) rfl ?_
    refine sl_2 (i := 0) (len := 1) S (by decide +kernel) rfl ?_
    refine sl_len (len := 1) S C.2.2.2.1 C.2.2.2.2.1 hbA C.2.2.2.2.2.1 (by omega) (by decide +kernel) ?_
    refine sl_0 (v := 6) (len := 2) S (by decide +kernel) ?_
    refine sl_8 (b := 1) (len := 1) S (by decide +kernel) ?_
    refine sl_18 (b := 4) (tgt := 1178) (len := 3) S (by decide +kernel) (fun _ => lw9_end C (by omega) (by omega)) (fun h => ?_)
    have h9 := mt2 (l_gt (q := 6 * k) hN (by omega)) h
    have hk : 6 * k + 6 ≤ N := by omega
    have next : ∀ (τ : mMH) (T' : Nat), T' ≤ 1800 * k + 1800 → JInv τ T' → lW p l e s m below meth c D ta ad0 b (399 + k + 1) (19538 + 6 * k + 6) 1172 (lL k) [] τ := by
      intro τ T' h4 hJ
      refine sl_7 (i := 4) (x := nI (6 * k)) (v := 6) (len := 3) S (by decide +kernel) rfl rfl ?_
      rw [show (lL k).set 4 (some (.int (nI (6 * k) + 6))) = lL (k + 1) from by
        rw [show nI (6 * k) + 6 = nI (6 * (k + 1)) from nI_add (6 * k) 6]
        rfl]
      refine sl_20 (tgt := 23) (len := 3) S (by decide +kernel) ?_
      exact ih (k + 1) T' τ (by omega) (by omega) (by omega) hJ
    refine sl_2 (i := 0) (len := 1) S (by decide +kernel) rfl ?_
    refine sl_1 (i := 4) (len := 2) S (by decide +kernel) rfl ?_
    refine sl_sld (len := 1) S C.2.2.2.1 C.2.2.2.2.1 hbA C.2.2.2.2.2.1 (by omega) (vp_in_nI (by omega) (by omega)) (by decide +kernel) ?_
    refine sl_0 (v := 31) (len := 2) S (by decide +kernel) ?_
    refine sl_8 (b := 3) (len := 1) S (by decide +kernel) ?_
    refine sl_22 (lo := 0) (d := 1172) (ts := lTs) (len := 120) S (by decide +kernel) (fun _ => sl_wide (Nat.le_succ _) (Nat.le_add_right _ 6) (next σ T (by omega) hI)) (fun q t hq _ => ?_)
    have hT : T + 2000 < 2 ^ 30 := by omega
    have go : ∀ τ, JInv τ (T + 1800) → lW p l e s m below meth c D ta ad0 b (399 + k + 1) (19538 + 6 * k + 6) 1172 (lL k) [] τ := fun τ hJ => next τ (T + 1800) (by omega) hJ
    have hn : 399 + k + 1 ≤ 601024 := by omega
    have hs : 19538 + 6 * k + 6 ≤ 7293034 := by omega
    have hn1 : 399 + k ≤ 601024 := by omega
    have hs1 : 19538 + 6 * k ≤ 7293034 := by omega
    match q, hq with
    | 0, hq => cases hq; exact case_feed C hk hI hT hn1 hs1 go
    | 1, hq => cases hq; exact case_end C hk hI hT hn1 hs1 go
    | 2, hq => cases hq; exact case_text C hk hI hT hn1 hs1 go
    | 3, hq => cases hq; exact case_code C hk hI hT hn hs go
    | 4, hq => cases hq; exact case_label C hk hI hT hn1 hs1 go
    | 5, hq => cases hq; exact case_reach C hk hI hT hn1 hs1 go
    | 6, hq => cases hq; exact case_hog C hk hI hT hn1 hs1 go
    | 7, hq => cases hq; exact case_slice C hk hI hT hn1 hs1 go
    | 8, hq => cases hq; exact case_poke C hk hI hT hn1 hs1 go
    | 9, hq => cases hq; exact case_start C hk hI hT hn1 hs1 go
    | 10, hq => cases hq; exact case_tick C hk hI hT hn1 hs1 go
    | 11, hq => cases hq; exact case_undo C hk hI hT hn1 hs1 go
    | 12, hq => cases hq; exact case_machine C hk hI hT hn1 hs1 go
    | 13, hq => cases hq; exact case_word C hk hI hT hn hs go
    | 14, hq => cases hq; exact case_queue C hk hI hT hn1 hs1 go
    | 15, hq => cases hq; exact case_timer C hk hI hT hn1 hs1 go
    | 16, hq => cases hq; exact case_link C hk hI hT hn1 hs1 go
    | 17, hq => cases hq; exact case_meeting C hk hI hT hn1 hs1 go
    | 18, hq => cases hq; exact case_stuck C hk hI hT hn1 hs1 go
    | 19, hq => cases hq; exact case_ahead C hk hI hT hn1 hs1 go
    | 20, hq => cases hq; exact case_share C hk hI hT hn1 hs1 go
    | 21, hq => cases hq; exact case_until C hk hI hT hn1 hs1 go
    | 22, hq => cases hq; exact case_slices C hk hI hT hn1 hs1 go
    | 23, hq => cases hq; exact case_keep C hk hI hT hn1 hs1 go
    | 24, hq => cases hq; exact case_back C hk hI hT hn1 hs1 go
    | 25, hq => cases hq; exact case_count C hk hI hT hn1 hs1 go
    | q + 26, hq => cases hq
end LCS
