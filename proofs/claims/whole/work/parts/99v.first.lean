/-! THE LAW: its walk up to the loop (GENERATED, wip/gen/p/99v.py) -/
theorem lf_9 : Cond.classLink RL 8 RX9 ∈ mWT := List.mem_filter.mpr (by decide +kernel)
theorem lf_10 : Cond.classLink RL 19 RX10 ∈ mWT := List.mem_filter.mpr (by decide +kernel)
theorem lf_i9 : Cond.methodLink RL 18 (mt 123).2.1 ∈ mWT := List.mem_filter.mpr (by decide +kernel)
theorem lf_i10 : Cond.methodLink RL 21 (mt 160).2.1 ∈ mWT := List.mem_filter.mpr (by decide +kernel)
def lL0 : mL := [some (.ref 1000100), none, none, none, none, none, none]
section LCS
variable {p : Program} {l : Launch} {e : Env} {s : State} {m : MethodId} {below : List Frame} {meth : Method} {c : Code} {D : va_G} {ta : Nat → ClassId} {ad0 : Nat → Nat} {b N : Nat} {xs : Nat → Int32}
set_option maxHeartbeats 4000000 in
theorem l_first (C : lC p l s m meth c D ta ad0 b N xs) : lW p l e s m below meth c D ta ad0 b 0 0 0 lL0 [] m00 := by
  have S := C.1
  obtain ⟨τ, τ', m1, l1, m2, l2, z1, s1, z2, s2, r1, r2, hJ⟩ := both_made
  have hA : ∀ q, s.heap.size ≤ q → lA s q := fun _ h => h
  refine sl_35 (ci := 9) (idx := 8) (r := (RX9, TX9, 12)) S C.2.1.1 hA (by decide) rfl lf_9 (by decide +kernel) (Nat.le_of_ble_eq_true rfl) (Nat.le_of_ble_eq_true rfl) ⟨fun x hx => ?_, fun x hx => ?_⟩ (fun o k x h => absurd h (by simp [m00])) ?_
  · simp [lL0] at hx
    exact Or.inr (by rw [hx]; exact Nat.le_of_ble_eq_true rfl)
  · cases hx
  rw [show (mFt.getD 9 []).length = 12 from rfl]
  refine sl_wide (n1 := 1) (s1 := 12) (Nat.le_refl _) (Nat.le_refl _) ?_
  refine sl_15 (v := .ref 0) (len := 1) S (by decide +kernel) rfl ?_
  refine sl_spec (d := 10) (o := 0) (idx := 18) (σ' := τ) (st := [.ref 0]) S C.2.1 hA (Nat.le_of_ble_eq_true rfl) (Nat.le_of_ble_eq_true rfl) (by decide) (mAll_ok 123 (by decide)).1 m1 (by decide +kernel) lf_i9 rfl (Nat.le_of_ble_eq_true rfl) l1 ⟨fun x hx => ?_, fun x hx => ?_⟩ (by show 1 + (τ.2.1.length - 1) ≤ 601024; omega) (by show 12 + (τ.1 - 12) ≤ 7293034; omega) ?_
  · have hx : x = 1000100 := by simpa [lL0] using hx
    right
    omega
  · simp at hx
    left
    rw [hx]
    exact Nat.le_of_ble_eq_true rfl
  refine sl_wide (n1 := 371) (s1 := 10669) (by show 1 + (τ.2.1.length - 1) ≤ 371; omega) (by show 12 + (τ.1 - 12) ≤ 10669; omega) ?_
  refine sl_5 (i := 1) (len := 1) S (by decide +kernel) (Nat.le_of_ble_eq_true rfl) rfl ?_
  refine sl_35 (ci := 10) (idx := 19) (r := (RX10, TX10, 51)) S C.2.1.1 hA (by decide) rfl lf_10 (by decide +kernel) (Nat.le_of_ble_eq_true rfl) (Nat.le_of_ble_eq_true rfl) ⟨fun x hx => ?_, fun x hx => ?_⟩ r1.rfo ?_
  · have hx : x = 1000100 ∨ x = 0 := by simpa [lL0] using hx
    omega
  · cases hx
  rw [show (mFt.getD 10 []).length = 51 from rfl, show Value.ref τ.2.1.length = Value.ref 371 from congrArg Value.ref z1]
  have y1 : (mNew τ 10 0 51).2.1.length = 372 := by simp [mNew, z1]
  have y2 : (mNew τ 10 0 51).1 = 10720 := by simp [mNew, s1]
  refine sl_wide (n1 := 372) (s1 := 10720) (Nat.le_refl _) (Nat.le_refl _) ?_
  refine sl_15 (v := .ref 371) (len := 1) S (by decide +kernel) rfl ?_
  refine sl_spec (d := 10) (o := 371) (idx := 21) (σ' := τ') (st := [.ref 371]) S C.2.1 hA (Nat.le_of_ble_eq_true rfl) (Nat.le_of_ble_eq_true rfl) (by decide) (mAll_ok 160 (by decide)).1 m2 (by decide +kernel) lf_i10 rfl (Nat.le_of_ble_eq_true rfl) l2 ⟨fun x hx => ?_, fun x hx => ?_⟩ (by rw [y1, z2]; exact Nat.le_of_ble_eq_true rfl) (by rw [y2, s2]; exact Nat.le_of_ble_eq_true rfl) ?_
  · have hx : x = 1000100 ∨ x = 0 := by simpa [lL0] using hx
    omega
  · have hx : x = 371 := by simpa using hx
    omega
  rw [y1, y2, z2, s2]
  refine sl_wide (n1 := 398) (s1 := 19537) (Nat.le_of_ble_eq_true rfl) (Nat.le_of_ble_eq_true rfl) ?_
  refine sl_5 (i := 2) (len := 1) S (by decide +kernel) (Nat.le_of_ble_eq_true rfl) rfl ?_
  refine sl_0 (v := 1) (len := 1) S (by decide +kernel) ?_
  refine sl_36 (n := 1) (len := 2) S C.2.1.1 hA (by decide +kernel) (by decide) (Nat.le_of_ble_eq_true rfl) (Nat.le_of_ble_eq_true rfl) (Nat.le_of_ble_eq_true rfl) ⟨fun x hx => ?_, fun x hx => ?_⟩ r2.rfo ?_
  · have hx : x = 1000100 ∨ x = 0 ∨ x = 371 := by simpa [lL0] using hx
    omega
  · cases hx
  rw [show (1 : Int32).toNatClampNeg = 1 from rfl, show Value.ref τ'.2.1.length = Value.ref 398 from congrArg Value.ref z2]
  refine sl_wide (n1 := 399) (s1 := 19538) (Nat.le_refl _) (Nat.le_refl _) ?_
  refine sl_5 (i := 3) (len := 1) S (by decide +kernel) (Nat.le_of_ble_eq_true rfl) rfl ?_
  refine sl_0 (v := 0) (len := 1) S (by decide +kernel) ?_
  refine sl_4 (i := 4) (len := 2) S (by decide +kernel) (Nat.le_of_ble_eq_true rfl) rfl ?_
  exact lw9_loop C (N + 1) 0 0 _ (by omega) (by omega) (by omega) hJ
end LCS
theorem ls_args (ad0 : Nat → Nat) {b : Nat} (h : ad0 1000100 = b) : ∀ q ∈ mLp ad0 lL0, q ∈ [((0 : Nat), Value.ref b)] := by
  intro q hq
  obtain ⟨v, h1, h2⟩ := mLp_mem.mp hq
  obtain ⟨i, w⟩ := q
  match i, h1 with
  | 0, h1 =>
    cases h1
    have e : w = Value.ref b := h2.trans (congrArg Value.ref h)
    rw [e]
    exact List.mem_cons_self
  | 1, h1 => cases h1
  | 2, h1 => cases h1
  | 3, h1 => cases h1
  | 4, h1 => cases h1
  | 5, h1 => cases h1
  | 6, h1 => cases h1
  | k + 7, h1 => cases h1
