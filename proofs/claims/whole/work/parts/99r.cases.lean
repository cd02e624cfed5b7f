/-! THE LAW: its cases (GENERATED, wip/gen/p/99r.py) -/
def lA (s : State) : Nat → Prop := fun q => s.heap.size ≤ q
/-- what holds all along the law's walk -/
def lC (p : Program) (l : Launch) (s : State) (m : MethodId) (meth : Method) (c : Code) (D : va_G) (ta : Nat → ClassId) (ad0 : Nat → Nat) (b N : Nat) (xs : Nat → Int32) : Prop := CallFix p m c code 7 s #[Value.ref b] (mWS 0) RL ∧ mKs D ta ad0 (lA s) s ∧ mZs (lA s) s ∧ va_X b N xs s s.heap ∧ b < s.heap.size ∧ ad0 1000100 = b ∧ l.stackTraces = false ∧ meth.sig.returnType = ret ∧ meth.locks = false ∧ N ≤ 3072
def lL (k : Nat) : mL := [some (.ref 1000100), some (.ref 0), some (.ref 371), some (.ref 398), some (.int (nI (6 * k))), none, none]
def argK (pc : Nat) (v : Int32) : Bool := mKn code pc 1 .aload_n .aload 0 && (mKn code (pc + 1) 2 .iload_n .iload 4 && (mK0 code (pc + 3) 1 v && (mK1 code (pc + 4) 1 (mIb 0) && mK1 code (pc + 5) 1 .iaload)))
section LCS
variable {p : Program} {l : Launch} {e : Env} {s : State} {m : MethodId} {below : List Frame} {meth : Method} {c : Code} {D : va_G} {ta : Nat → ClassId} {ad0 : Nat → Nat} {b N : Nat} {xs : Nat → Int32} {n0 s0 pc k T : Nat} {L : mL} {st : List Value} {σ : mMH}
abbrev lW (p : Program) (l : Launch) (e : Env) (s : State) (m : MethodId) (below : List Frame) (meth : Method) (c : Code) (D : va_G) (ta : Nat → ClassId) (ad0 : Nat → Nat) (b n0 s0 pc : Nat) (L : mL) (st : List Value) (σ : mMH) : Prop := lG p l e room_1 s m #[Value.ref b] below meth c D ta (lA s) ad0 n0 s0 7 (lw_Z below #[Value.ref b] s) pc L st σ
theorem lc_arg (C : lC p l s m meth c D ta ad0 b N xs) (q : Nat) {v : Int32} (hL0 : L[0]? = some (some (.ref 1000100))) (hL4 : L[4]? = some (some (.int (nI (6 * k))))) (hk : 6 * k + 6 ≤ N) (hq : q ≤ 5) (hv : v = nI q) (hz : σ.2.1.length = 399) (hck : argK pc v = true) (kk : lW p l e s m below meth c D ta ad0 b n0 s0 (pc + 6) L (.int (xs (6 * k + q)) :: st) σ) : lW p l e s m below meth c D ta ad0 b n0 s0 pc L st σ := by
  obtain ⟨S, hKs, hZ, hX, hbl, hb, -, -, -, hN⟩ := C
  simp only [argK, Bool.and_eq_true] at hck
  obtain ⟨c1, c2, c3, c4, c5⟩ := hck
  have e1 : mBin 0 (nI (6 * k)) v = nI (6 * k + q) := by
    rw [hv]
    exact nI_add _ _
  refine sl_2 (i := 0) (len := 1) S c1 hL0 ?_
  refine sl_1 (i := 4) (len := 2) S c2 hL4 ?_
  refine sl_0 (v := v) (len := 1) S c3 ?_
  refine sl_8 (b := 0) (len := 1) S c4 ?_
  rw [e1]
  refine sl_sld (len := 1) S hX hbl (fun h => Nat.not_le.mpr hbl h) hb (by omega) (vp_in_nI (by omega) (by omega)) c5 ?_
  rw [nI_clamp (by omega)]
  exact kk
theorem jI_len {τ : mMH} (h : JInv τ T) : τ.2.1.length = 399 := by
  obtain ⟨pg, sp, h, -⟩ := h
  exact h.1
theorem jI_0 {τ : mMH} (h : JInv τ T) : τ.2.1[0]? = some (9, 0) ∧ τ.2.1[371]? = some (10, 0) ∧ τ.2.1[398]? = some (23, 1) := by
  obtain ⟨pg, sp, h, -⟩ := h
  exact ⟨h.2.1.1, h.2.2.2.1.2.2.2.2.2.2.2.2.2.1, h.2.1.2.2.2.2.2⟩
theorem lc_virt (C : lC p l s m meth c D ta ad0 b N xs) {j' idx o : Nat} {as : List Value} {r' : Option Int32} {σ' : mMH} (hj : j' < 271) (hM : mCall 10 j' (.ref o :: as) σ r' σ') (g1 : mDc code pc (.invokevirtual idx) 3 = true) (g2 : Cond.methodLink RL idx (mt j').2.1 ∈ mWT) (g3 : (mt j').2.2.2.2.2.1 = 0) (g4 : mCi j' < 11) (hlen : as.length = mNa j') (hsz : mSz st ≤ 8) (ho : σ.2.1[o]? = some (mCi j', 0)) (e1 : σ'.1 = σ.1) (e2 : σ'.2.1 = σ.2.1) (hz : σ.2.1.length = 399) (hRc : n0 ≤ 601024) (hRs : s0 ≤ 7293034) (kk : lW p l e s m below meth c D ta ad0 b n0 s0 (pc + 3) L ((r'.map Value.int).toList ++ st) σ') : lW p l e s m below meth c D ta ad0 b n0 s0 pc L ((.ref o :: as).reverse ++ st) σ :=
  sl_virt (d := 10) C.1 C.2.1 (fun _ h => h) (Nat.le_of_ble_eq_true rfl) (Nat.le_of_ble_eq_true rfl) hj (mAll_ok j' hj).1 hM g1 g2 g3 g4 hlen hsz ho e1 e2 (by omega) hRc hRs kk
theorem lk9_feed : Cond.methodLink RL 22 (mt 124).2.1 ∈ mWT := List.mem_filter.mpr (by decide +kernel)
theorem lk10_feed : Cond.methodLink RL 26 (mt 165).2.1 ∈ mWT := List.mem_filter.mpr (by decide +kernel)
set_option maxHeartbeats 2000000 in
theorem case_feed (C : lC p l s m meth c D ta ad0 b N xs) (hk : 6 * k + 6 ≤ N) (hI : JInv σ T) (hT : T + 2000 < 2 ^ 30) (hn : n0 ≤ 601024) (hs : s0 ≤ 7293034) (kk : ∀ τ, JInv τ (T + 1800) → lW p l e s m below meth c D ta ad0 b (n0 + 1) (s0 + 6) 1172 (lL k) [] τ) : lW p l e s m below meth c D ta ad0 b n0 s0 160 (lL k) [] σ := by
  have hz := jI_len hI
  have hI0 := jI_0 hI
  obtain ⟨pg, sp, hS, hV⟩ := hI
  obtain ⟨x, τ1, τ2, m1, m2, e1, e2, e3, e4, hJ⟩ := P_feed hS hV hT (xs (6 * k + 1)) (xs (6 * k + 2)) (xs (6 * k + 3)) (xs (6 * k + 4)) (xs (6 * k + 5))
  have hz1 : τ1.2.1.length = 399 := by rw [e2]; exact hz
  have S := C.1
  refine sl_2 (i := 1) (len := 1) S (by decide +kernel) rfl ?_
  refine lc_arg (k := k) C 1 rfl rfl hk (by decide) rfl hz (by decide +kernel) ?_
  refine lc_arg (k := k) C 2 rfl rfl hk (by decide) rfl hz (by decide +kernel) ?_
  refine lc_arg (k := k) C 3 rfl rfl hk (by decide) rfl hz (by decide +kernel) ?_
  refine lc_arg (k := k) C 4 rfl rfl hk (by decide) rfl hz (by decide +kernel) ?_
  refine lc_arg (k := k) C 5 rfl rfl hk (by decide) rfl hz (by decide +kernel) ?_
  refine lc_virt (o := 0) (as := [.int (xs (6 * k + 1)), .int (xs (6 * k + 2)), .int (xs (6 * k + 3)), .int (xs (6 * k + 4)), .int (xs (6 * k + 5))]) (st := []) C (by decide) m1 (by decide +kernel) lk9_feed rfl (by decide) rfl (Nat.le_of_ble_eq_true rfl) hI0.1 e1 e2 hz hn hs ?_
  refine sl_2 (i := 2) (len := 1) S (by decide +kernel) rfl ?_
  refine lc_arg (k := k) C 1 rfl rfl hk (by decide) rfl hz1 (by decide +kernel) ?_
  refine lc_arg (k := k) C 2 rfl rfl hk (by decide) rfl hz1 (by decide +kernel) ?_
  refine lc_arg (k := k) C 3 rfl rfl hk (by decide) rfl hz1 (by decide +kernel) ?_
  refine lc_arg (k := k) C 4 rfl rfl hk (by decide) rfl hz1 (by decide +kernel) ?_
  refine lc_arg (k := k) C 5 rfl rfl hk (by decide) rfl hz1 (by decide +kernel) ?_
  refine lc_virt (o := 371) (as := [.int (xs (6 * k + 1)), .int (xs (6 * k + 2)), .int (xs (6 * k + 3)), .int (xs (6 * k + 4)), .int (xs (6 * k + 5))]) (st := [.int x]) C (by decide) m2 (by decide +kernel) lk10_feed rfl (by decide) rfl (Nat.le_of_ble_eq_true rfl) (by rw [e2]; exact hI0.2.1) (e3.trans e1.symm) (e4.trans e2.symm) hz1 hn hs ?_
  exact sl_18 (b := 0) (tgt := 1172) (len := 3) S (by decide +kernel) (fun _ => sl_wide (Nat.le_succ _) (Nat.le_add_right _ 6) (kk τ2 hJ)) (fun h => absurd rfl h)
theorem lk9_end : Cond.methodLink RL 27 (mt 126).2.1 ∈ mWT := List.mem_filter.mpr (by decide +kernel)
theorem lk10_end : Cond.methodLink RL 31 (mt 166).2.1 ∈ mWT := List.mem_filter.mpr (by decide +kernel)
set_option maxHeartbeats 2000000 in
theorem case_end (C : lC p l s m meth c D ta ad0 b N xs) (hk : 6 * k + 6 ≤ N) (hI : JInv σ T) (hT : T + 2000 < 2 ^ 30) (hn : n0 ≤ 601024) (hs : s0 ≤ 7293034) (kk : ∀ τ, JInv τ (T + 1800) → lW p l e s m below meth c D ta ad0 b (n0 + 1) (s0 + 6) 1172 (lL k) [] τ) : lW p l e s m below meth c D ta ad0 b n0 s0 233 (lL k) [] σ := by
  have hz := jI_len hI
  have hI0 := jI_0 hI
  obtain ⟨pg, sp, hS, hV⟩ := hI
  obtain ⟨x, τ1, τ2, m1, m2, e1, e2, e3, e4, hJ⟩ := P_end hS hV hT (xs (6 * k + 1))
  have hz1 : τ1.2.1.length = 399 := by rw [e2]; exact hz
  have S := C.1
  refine sl_2 (i := 1) (len := 1) S (by decide +kernel) rfl ?_
  refine lc_arg (k := k) C 1 rfl rfl hk (by decide) rfl hz (by decide +kernel) ?_
  refine lc_virt (o := 0) (as := [.int (xs (6 * k + 1))]) (st := []) C (by decide) m1 (by decide +kernel) lk9_end rfl (by decide) rfl (Nat.le_of_ble_eq_true rfl) hI0.1 e1 e2 hz hn hs ?_
  refine sl_2 (i := 2) (len := 1) S (by decide +kernel) rfl ?_
  refine lc_arg (k := k) C 1 rfl rfl hk (by decide) rfl hz1 (by decide +kernel) ?_
  refine lc_virt (o := 371) (as := [.int (xs (6 * k + 1))]) (st := [.int x]) C (by decide) m2 (by decide +kernel) lk10_end rfl (by decide) rfl (Nat.le_of_ble_eq_true rfl) (by rw [e2]; exact hI0.2.1) (e3.trans e1.symm) (e4.trans e2.symm) hz1 hn hs ?_
  exact sl_18 (b := 0) (tgt := 1172) (len := 3) S (by decide +kernel) (fun _ => sl_wide (Nat.le_succ _) (Nat.le_add_right _ 6) (kk τ2 hJ)) (fun h => absurd rfl h)
theorem lk9_text : Cond.methodLink RL 32 (mt 127).2.1 ∈ mWT := List.mem_filter.mpr (by decide +kernel)
theorem lk10_text : Cond.methodLink RL 36 (mt 187).2.1 ∈ mWT := List.mem_filter.mpr (by decide +kernel)
set_option maxHeartbeats 2000000 in
theorem case_text (C : lC p l s m meth c D ta ad0 b N xs) (hk : 6 * k + 6 ≤ N) (hI : JInv σ T) (hT : T + 2000 < 2 ^ 30) (hn : n0 ≤ 601024) (hs : s0 ≤ 7293034) (kk : ∀ τ, JInv τ (T + 1800) → lW p l e s m below meth c D ta ad0 b (n0 + 1) (s0 + 6) 1172 (lL k) [] τ) : lW p l e s m below meth c D ta ad0 b n0 s0 258 (lL k) [] σ := by
  have hz := jI_len hI
  have hI0 := jI_0 hI
  obtain ⟨pg, sp, hS, hV⟩ := hI
  obtain ⟨x, τ1, τ2, m1, m2, e1, e2, e3, e4, hJ⟩ := P_text hS hV hT 
  have hz1 : τ1.2.1.length = 399 := by rw [e2]; exact hz
  have S := C.1
  refine sl_2 (i := 1) (len := 1) S (by decide +kernel) rfl ?_
  refine lc_virt (o := 0) (as := []) (st := []) C (by decide) m1 (by decide +kernel) lk9_text rfl (by decide) rfl (Nat.le_of_ble_eq_true rfl) hI0.1 e1 e2 hz hn hs ?_
  refine sl_2 (i := 2) (len := 1) S (by decide +kernel) rfl ?_
  refine lc_virt (o := 371) (as := []) (st := [.int x]) C (by decide) m2 (by decide +kernel) lk10_text rfl (by decide) rfl (Nat.le_of_ble_eq_true rfl) (by rw [e2]; exact hI0.2.1) (e3.trans e1.symm) (e4.trans e2.symm) hz1 hn hs ?_
  exact sl_18 (b := 0) (tgt := 1172) (len := 3) S (by decide +kernel) (fun _ => sl_wide (Nat.le_succ _) (Nat.le_add_right _ 6) (kk τ2 hJ)) (fun h => absurd rfl h)
theorem lk9_label : Cond.methodLink RL 46 (mt 129).2.1 ∈ mWT := List.mem_filter.mpr (by decide +kernel)
theorem lk10_label : Cond.methodLink RL 50 (mt 237).2.1 ∈ mWT := List.mem_filter.mpr (by decide +kernel)
set_option maxHeartbeats 2000000 in
theorem case_label (C : lC p l s m meth c D ta ad0 b N xs) (hk : 6 * k + 6 ≤ N) (hI : JInv σ T) (hT : T + 2000 < 2 ^ 30) (hn : n0 ≤ 601024) (hs : s0 ≤ 7293034) (kk : ∀ τ, JInv τ (T + 1800) → lW p l e s m below meth c D ta ad0 b (n0 + 1) (s0 + 6) 1172 (lL k) [] τ) : lW p l e s m below meth c D ta ad0 b n0 s0 339 (lL k) [] σ := by
  have hz := jI_len hI
  have hI0 := jI_0 hI
  obtain ⟨pg, sp, hS, hV⟩ := hI
  obtain ⟨x, τ1, τ2, m1, m2, e1, e2, e3, e4, hJ⟩ := P_label hS hV hT (xs (6 * k + 1))
  have hz1 : τ1.2.1.length = 399 := by rw [e2]; exact hz
  have S := C.1
  refine sl_2 (i := 1) (len := 1) S (by decide +kernel) rfl ?_
  refine lc_arg (k := k) C 1 rfl rfl hk (by decide) rfl hz (by decide +kernel) ?_
  refine lc_virt (o := 0) (as := [.int (xs (6 * k + 1))]) (st := []) C (by decide) m1 (by decide +kernel) lk9_label rfl (by decide) rfl (Nat.le_of_ble_eq_true rfl) hI0.1 e1 e2 hz hn hs ?_
  refine sl_2 (i := 2) (len := 1) S (by decide +kernel) rfl ?_
  refine lc_arg (k := k) C 1 rfl rfl hk (by decide) rfl hz1 (by decide +kernel) ?_
  refine lc_virt (o := 371) (as := [.int (xs (6 * k + 1))]) (st := [.int x]) C (by decide) m2 (by decide +kernel) lk10_label rfl (by decide) rfl (Nat.le_of_ble_eq_true rfl) (by rw [e2]; exact hI0.2.1) (e3.trans e1.symm) (e4.trans e2.symm) hz1 hn hs ?_
  exact sl_18 (b := 0) (tgt := 1172) (len := 3) S (by decide +kernel) (fun _ => sl_wide (Nat.le_succ _) (Nat.le_add_right _ 6) (kk τ2 hJ)) (fun h => absurd rfl h)
theorem lk9_reach : Cond.methodLink RL 51 (mt 130).2.1 ∈ mWT := List.mem_filter.mpr (by decide +kernel)
theorem lk10_reach : Cond.methodLink RL 54 (mt 243).2.1 ∈ mWT := List.mem_filter.mpr (by decide +kernel)
set_option maxHeartbeats 2000000 in
theorem case_reach (C : lC p l s m meth c D ta ad0 b N xs) (hk : 6 * k + 6 ≤ N) (hI : JInv σ T) (hT : T + 2000 < 2 ^ 30) (hn : n0 ≤ 601024) (hs : s0 ≤ 7293034) (kk : ∀ τ, JInv τ (T + 1800) → lW p l e s m below meth c D ta ad0 b (n0 + 1) (s0 + 6) 1172 (lL k) [] τ) : lW p l e s m below meth c D ta ad0 b n0 s0 364 (lL k) [] σ := by
  have hz := jI_len hI
  have hI0 := jI_0 hI
  obtain ⟨pg, sp, hS, hV⟩ := hI
  obtain ⟨x, τ1, τ2, m1, m2, e1, e2, e3, e4, hJ⟩ := P_reach hS hV hT (xs (6 * k + 1)) (xs (6 * k + 2))
  have hz1 : τ1.2.1.length = 399 := by rw [e2]; exact hz
  have S := C.1
  refine sl_2 (i := 1) (len := 1) S (by decide +kernel) rfl ?_
  refine lc_arg (k := k) C 1 rfl rfl hk (by decide) rfl hz (by decide +kernel) ?_
  refine lc_arg (k := k) C 2 rfl rfl hk (by decide) rfl hz (by decide +kernel) ?_
  refine lc_virt (o := 0) (as := [.int (xs (6 * k + 1)), .int (xs (6 * k + 2))]) (st := []) C (by decide) m1 (by decide +kernel) lk9_reach rfl (by decide) rfl (Nat.le_of_ble_eq_true rfl) hI0.1 e1 e2 hz hn hs ?_
  refine sl_2 (i := 2) (len := 1) S (by decide +kernel) rfl ?_
  refine lc_arg (k := k) C 1 rfl rfl hk (by decide) rfl hz1 (by decide +kernel) ?_
  refine lc_arg (k := k) C 2 rfl rfl hk (by decide) rfl hz1 (by decide +kernel) ?_
  refine lc_virt (o := 371) (as := [.int (xs (6 * k + 1)), .int (xs (6 * k + 2))]) (st := [.int x]) C (by decide) m2 (by decide +kernel) lk10_reach rfl (by decide) rfl (Nat.le_of_ble_eq_true rfl) (by rw [e2]; exact hI0.2.1) (e3.trans e1.symm) (e4.trans e2.symm) hz1 hn hs ?_
  exact sl_18 (b := 0) (tgt := 1172) (len := 3) S (by decide +kernel) (fun _ => sl_wide (Nat.le_succ _) (Nat.le_add_right _ 6) (kk τ2 hJ)) (fun h => absurd rfl h)
theorem lk9_hog : Cond.methodLink RL 55 (mt 131).2.1 ∈ mWT := List.mem_filter.mpr (by decide +kernel)
theorem lk10_hog : Cond.methodLink RL 58 (mt 244).2.1 ∈ mWT := List.mem_filter.mpr (by decide +kernel)
set_option maxHeartbeats 2000000 in
theorem case_hog (C : lC p l s m meth c D ta ad0 b N xs) (hk : 6 * k + 6 ≤ N) (hI : JInv σ T) (hT : T + 2000 < 2 ^ 30) (hn : n0 ≤ 601024) (hs : s0 ≤ 7293034) (kk : ∀ τ, JInv τ (T + 1800) → lW p l e s m below meth c D ta ad0 b (n0 + 1) (s0 + 6) 1172 (lL k) [] τ) : lW p l e s m below meth c D ta ad0 b n0 s0 401 (lL k) [] σ := by
  have hz := jI_len hI
  have hI0 := jI_0 hI
  obtain ⟨pg, sp, hS, hV⟩ := hI
  obtain ⟨x, τ1, τ2, m1, m2, e1, e2, e3, e4, hJ⟩ := P_hog hS hV hT (xs (6 * k + 1))
  have hz1 : τ1.2.1.length = 399 := by rw [e2]; exact hz
  have S := C.1
  refine sl_2 (i := 1) (len := 1) S (by decide +kernel) rfl ?_
  refine lc_arg (k := k) C 1 rfl rfl hk (by decide) rfl hz (by decide +kernel) ?_
  refine lc_virt (o := 0) (as := [.int (xs (6 * k + 1))]) (st := []) C (by decide) m1 (by decide +kernel) lk9_hog rfl (by decide) rfl (Nat.le_of_ble_eq_true rfl) hI0.1 e1 e2 hz hn hs ?_
  refine sl_2 (i := 2) (len := 1) S (by decide +kernel) rfl ?_
  refine lc_arg (k := k) C 1 rfl rfl hk (by decide) rfl hz1 (by decide +kernel) ?_
  refine lc_virt (o := 371) (as := [.int (xs (6 * k + 1))]) (st := [.int x]) C (by decide) m2 (by decide +kernel) lk10_hog rfl (by decide) rfl (Nat.le_of_ble_eq_true rfl) (by rw [e2]; exact hI0.2.1) (e3.trans e1.symm) (e4.trans e2.symm) hz1 hn hs ?_
  exact sl_18 (b := 0) (tgt := 1172) (len := 3) S (by decide +kernel) (fun _ => sl_wide (Nat.le_succ _) (Nat.le_add_right _ 6) (kk τ2 hJ)) (fun h => absurd rfl h)
theorem lk9_slice : Cond.methodLink RL 59 (mt 132).2.1 ∈ mWT := List.mem_filter.mpr (by decide +kernel)
theorem lk10_slice : Cond.methodLink RL 62 (mt 247).2.1 ∈ mWT := List.mem_filter.mpr (by decide +kernel)
set_option maxHeartbeats 2000000 in
theorem case_slice (C : lC p l s m meth c D ta ad0 b N xs) (hk : 6 * k + 6 ≤ N) (hI : JInv σ T) (hT : T + 2000 < 2 ^ 30) (hn : n0 ≤ 601024) (hs : s0 ≤ 7293034) (kk : ∀ τ, JInv τ (T + 1800) → lW p l e s m below meth c D ta ad0 b (n0 + 1) (s0 + 6) 1172 (lL k) [] τ) : lW p l e s m below meth c D ta ad0 b n0 s0 426 (lL k) [] σ := by
  have hz := jI_len hI
  have hI0 := jI_0 hI
  obtain ⟨pg, sp, hS, hV⟩ := hI
  obtain ⟨x, τ1, τ2, m1, m2, e1, e2, e3, e4, hJ⟩ := P_slice hS hV hT (xs (6 * k + 1))
  have hz1 : τ1.2.1.length = 399 := by rw [e2]; exact hz
  have S := C.1
  refine sl_2 (i := 1) (len := 1) S (by decide +kernel) rfl ?_
  refine lc_arg (k := k) C 1 rfl rfl hk (by decide) rfl hz (by decide +kernel) ?_
  refine lc_virt (o := 0) (as := [.int (xs (6 * k + 1))]) (st := []) C (by decide) m1 (by decide +kernel) lk9_slice rfl (by decide) rfl (Nat.le_of_ble_eq_true rfl) hI0.1 e1 e2 hz hn hs ?_
  refine sl_2 (i := 2) (len := 1) S (by decide +kernel) rfl ?_
  refine lc_arg (k := k) C 1 rfl rfl hk (by decide) rfl hz1 (by decide +kernel) ?_
  refine lc_virt (o := 371) (as := [.int (xs (6 * k + 1))]) (st := [.int x]) C (by decide) m2 (by decide +kernel) lk10_slice rfl (by decide) rfl (Nat.le_of_ble_eq_true rfl) (by rw [e2]; exact hI0.2.1) (e3.trans e1.symm) (e4.trans e2.symm) hz1 hn hs ?_
  exact sl_18 (b := 0) (tgt := 1172) (len := 3) S (by decide +kernel) (fun _ => sl_wide (Nat.le_succ _) (Nat.le_add_right _ 6) (kk τ2 hJ)) (fun h => absurd rfl h)
theorem lk9_poke : Cond.methodLink RL 63 (mt 133).2.1 ∈ mWT := List.mem_filter.mpr (by decide +kernel)
theorem lk10_poke : Cond.methodLink RL 67 (mt 249).2.1 ∈ mWT := List.mem_filter.mpr (by decide +kernel)
set_option maxHeartbeats 2000000 in
theorem case_poke (C : lC p l s m meth c D ta ad0 b N xs) (hk : 6 * k + 6 ≤ N) (hI : JInv σ T) (hT : T + 2000 < 2 ^ 30) (hn : n0 ≤ 601024) (hs : s0 ≤ 7293034) (kk : ∀ τ, JInv τ (T + 1800) → lW p l e s m below meth c D ta ad0 b (n0 + 1) (s0 + 6) 1172 (lL k) [] τ) : lW p l e s m below meth c D ta ad0 b n0 s0 451 (lL k) [] σ := by
  have hz := jI_len hI
  have hI0 := jI_0 hI
  obtain ⟨pg, sp, hS, hV⟩ := hI
  obtain ⟨x, τ1, τ2, m1, m2, e1, e2, e3, e4, hJ⟩ := P_poke hS hV hT (xs (6 * k + 1)) (xs (6 * k + 2)) (xs (6 * k + 3))
  have hz1 : τ1.2.1.length = 399 := by rw [e2]; exact hz
  have S := C.1
  refine sl_2 (i := 1) (len := 1) S (by decide +kernel) rfl ?_
  refine lc_arg (k := k) C 1 rfl rfl hk (by decide) rfl hz (by decide +kernel) ?_
  refine lc_arg (k := k) C 2 rfl rfl hk (by decide) rfl hz (by decide +kernel) ?_
  refine lc_arg (k := k) C 3 rfl rfl hk (by decide) rfl hz (by decide +kernel) ?_
  refine lc_virt (o := 0) (as := [.int (xs (6 * k + 1)), .int (xs (6 * k + 2)), .int (xs (6 * k + 3))]) (st := []) C (by decide) m1 (by decide +kernel) lk9_poke rfl (by decide) rfl (Nat.le_of_ble_eq_true rfl) hI0.1 e1 e2 hz hn hs ?_
  refine sl_2 (i := 2) (len := 1) S (by decide +kernel) rfl ?_
  refine lc_arg (k := k) C 1 rfl rfl hk (by decide) rfl hz1 (by decide +kernel) ?_
  refine lc_arg (k := k) C 2 rfl rfl hk (by decide) rfl hz1 (by decide +kernel) ?_
  refine lc_arg (k := k) C 3 rfl rfl hk (by decide) rfl hz1 (by decide +kernel) ?_
  refine lc_virt (o := 371) (as := [.int (xs (6 * k + 1)), .int (xs (6 * k + 2)), .int (xs (6 * k + 3))]) (st := [.int x]) C (by decide) m2 (by decide +kernel) lk10_poke rfl (by decide) rfl (Nat.le_of_ble_eq_true rfl) (by rw [e2]; exact hI0.2.1) (e3.trans e1.symm) (e4.trans e2.symm) hz1 hn hs ?_
  exact sl_18 (b := 0) (tgt := 1172) (len := 3) S (by decide +kernel) (fun _ => sl_wide (Nat.le_succ _) (Nat.le_add_right _ 6) (kk τ2 hJ)) (fun h => absurd rfl h)
theorem lk9_start : Cond.methodLink RL 68 (mt 134).2.1 ∈ mWT := List.mem_filter.mpr (by decide +kernel)
theorem lk10_start : Cond.methodLink RL 72 (mt 250).2.1 ∈ mWT := List.mem_filter.mpr (by decide +kernel)
set_option maxHeartbeats 2000000 in
theorem case_start (C : lC p l s m meth c D ta ad0 b N xs) (hk : 6 * k + 6 ≤ N) (hI : JInv σ T) (hT : T + 2000 < 2 ^ 30) (hn : n0 ≤ 601024) (hs : s0 ≤ 7293034) (kk : ∀ τ, JInv τ (T + 1800) → lW p l e s m below meth c D ta ad0 b (n0 + 1) (s0 + 6) 1172 (lL k) [] τ) : lW p l e s m below meth c D ta ad0 b n0 s0 500 (lL k) [] σ := by
  have hz := jI_len hI
  have hI0 := jI_0 hI
  obtain ⟨pg, sp, hS, hV⟩ := hI
  obtain ⟨x, τ1, τ2, m1, m2, e1, e2, e3, e4, hJ⟩ := P_start hS hV hT (xs (6 * k + 1)) (xs (6 * k + 2)) (xs (6 * k + 3)) (xs (6 * k + 4))
  have hz1 : τ1.2.1.length = 399 := by rw [e2]; exact hz
  have S := C.1
  refine sl_2 (i := 1) (len := 1) S (by decide +kernel) rfl ?_
  refine lc_arg (k := k) C 1 rfl rfl hk (by decide) rfl hz (by decide +kernel) ?_
  refine lc_arg (k := k) C 2 rfl rfl hk (by decide) rfl hz (by decide +kernel) ?_
  refine lc_arg (k := k) C 3 rfl rfl hk (by decide) rfl hz (by decide +kernel) ?_
  refine lc_arg (k := k) C 4 rfl rfl hk (by decide) rfl hz (by decide +kernel) ?_
  refine lc_virt (o := 0) (as := [.int (xs (6 * k + 1)), .int (xs (6 * k + 2)), .int (xs (6 * k + 3)), .int (xs (6 * k + 4))]) (st := []) C (by decide) m1 (by decide +kernel) lk9_start rfl (by decide) rfl (Nat.le_of_ble_eq_true rfl) hI0.1 e1 e2 hz hn hs ?_
  refine sl_2 (i := 2) (len := 1) S (by decide +kernel) rfl ?_
  refine lc_arg (k := k) C 1 rfl rfl hk (by decide) rfl hz1 (by decide +kernel) ?_
  refine lc_arg (k := k) C 2 rfl rfl hk (by decide) rfl hz1 (by decide +kernel) ?_
  refine lc_arg (k := k) C 3 rfl rfl hk (by decide) rfl hz1 (by decide +kernel) ?_
  refine lc_arg (k := k) C 4 rfl rfl hk (by decide) rfl hz1 (by decide +kernel) ?_
  refine lc_virt (o := 371) (as := [.int (xs (6 * k + 1)), .int (xs (6 * k + 2)), .int (xs (6 * k + 3)), .int (xs (6 * k + 4))]) (st := [.int x]) C (by decide) m2 (by decide +kernel) lk10_start rfl (by decide) rfl (Nat.le_of_ble_eq_true rfl) (by rw [e2]; exact hI0.2.1) (e3.trans e1.symm) (e4.trans e2.symm) hz1 hn hs ?_
  exact sl_18 (b := 0) (tgt := 1172) (len := 3) S (by decide +kernel) (fun _ => sl_wide (Nat.le_succ _) (Nat.le_add_right _ 6) (kk τ2 hJ)) (fun h => absurd rfl h)
theorem lk9_tick : Cond.methodLink RL 73 (mt 135).2.1 ∈ mWT := List.mem_filter.mpr (by decide +kernel)
theorem lk10_tick : Cond.methodLink RL 76 (mt 251).2.1 ∈ mWT := List.mem_filter.mpr (by decide +kernel)
set_option maxHeartbeats 2000000 in
theorem case_tick (C : lC p l s m meth c D ta ad0 b N xs) (hk : 6 * k + 6 ≤ N) (hI : JInv σ T) (hT : T + 2000 < 2 ^ 30) (hn : n0 ≤ 601024) (hs : s0 ≤ 7293034) (kk : ∀ τ, JInv τ (T + 1800) → lW p l e s m below meth c D ta ad0 b (n0 + 1) (s0 + 6) 1172 (lL k) [] τ) : lW p l e s m below meth c D ta ad0 b n0 s0 561 (lL k) [] σ := by
  have hz := jI_len hI
  have hI0 := jI_0 hI
  obtain ⟨pg, sp, hS, hV⟩ := hI
  obtain ⟨x, τ1, τ2, m1, m2, e1, e2, e3, e4, hJ⟩ := P_tick hS hV hT (xs (6 * k + 1))
  have hz1 : τ1.2.1.length = 399 := by rw [e2]; exact hz
  have S := C.1
  refine sl_2 (i := 1) (len := 1) S (by decide +kernel) rfl ?_
  refine lc_arg (k := k) C 1 rfl rfl hk (by decide) rfl hz (by decide +kernel) ?_
  refine lc_virt (o := 0) (as := [.int (xs (6 * k + 1))]) (st := []) C (by decide) m1 (by decide +kernel) lk9_tick rfl (by decide) rfl (Nat.le_of_ble_eq_true rfl) hI0.1 e1 e2 hz hn hs ?_
  refine sl_2 (i := 2) (len := 1) S (by decide +kernel) rfl ?_
  refine lc_arg (k := k) C 1 rfl rfl hk (by decide) rfl hz1 (by decide +kernel) ?_
  refine lc_virt (o := 371) (as := [.int (xs (6 * k + 1))]) (st := [.int x]) C (by decide) m2 (by decide +kernel) lk10_tick rfl (by decide) rfl (Nat.le_of_ble_eq_true rfl) (by rw [e2]; exact hI0.2.1) (e3.trans e1.symm) (e4.trans e2.symm) hz1 hn hs ?_
  exact sl_18 (b := 0) (tgt := 1172) (len := 3) S (by decide +kernel) (fun _ => sl_wide (Nat.le_succ _) (Nat.le_add_right _ 6) (kk τ2 hJ)) (fun h => absurd rfl h)
theorem lk9_undo : Cond.methodLink RL 77 (mt 136).2.1 ∈ mWT := List.mem_filter.mpr (by decide +kernel)
theorem lk10_undo : Cond.methodLink RL 80 (mt 246).2.1 ∈ mWT := List.mem_filter.mpr (by decide +kernel)
set_option maxHeartbeats 2000000 in
theorem case_undo (C : lC p l s m meth c D ta ad0 b N xs) (hk : 6 * k + 6 ≤ N) (hI : JInv σ T) (hT : T + 2000 < 2 ^ 30) (hn : n0 ≤ 601024) (hs : s0 ≤ 7293034) (kk : ∀ τ, JInv τ (T + 1800) → lW p l e s m below meth c D ta ad0 b (n0 + 1) (s0 + 6) 1172 (lL k) [] τ) : lW p l e s m below meth c D ta ad0 b n0 s0 586 (lL k) [] σ := by
  have hz := jI_len hI
  have hI0 := jI_0 hI
  obtain ⟨pg, sp, hS, hV⟩ := hI
  obtain ⟨x, τ1, τ2, m1, m2, e1, e2, e3, e4, hJ⟩ := P_undo hS hV hT 
  have hz1 : τ1.2.1.length = 399 := by rw [e2]; exact hz
  have S := C.1
  refine sl_2 (i := 1) (len := 1) S (by decide +kernel) rfl ?_
  refine lc_virt (o := 0) (as := []) (st := []) C (by decide) m1 (by decide +kernel) lk9_undo rfl (by decide) rfl (Nat.le_of_ble_eq_true rfl) hI0.1 e1 e2 hz hn hs ?_
  refine sl_2 (i := 2) (len := 1) S (by decide +kernel) rfl ?_
  refine lc_virt (o := 371) (as := []) (st := [.int x]) C (by decide) m2 (by decide +kernel) lk10_undo rfl (by decide) rfl (Nat.le_of_ble_eq_true rfl) (by rw [e2]; exact hI0.2.1) (e3.trans e1.symm) (e4.trans e2.symm) hz1 hn hs ?_
  exact sl_18 (b := 0) (tgt := 1172) (len := 3) S (by decide +kernel) (fun _ => sl_wide (Nat.le_succ _) (Nat.le_add_right _ 6) (kk τ2 hJ)) (fun h => absurd rfl h)
theorem lk9_machine : Cond.methodLink RL 81 (mt 137).2.1 ∈ mWT := List.mem_filter.mpr (by decide +kernel)
theorem lk10_machine : Cond.methodLink RL 84 (mt 252).2.1 ∈ mWT := List.mem_filter.mpr (by decide +kernel)
set_option maxHeartbeats 2000000 in
theorem case_machine (C : lC p l s m meth c D ta ad0 b N xs) (hk : 6 * k + 6 ≤ N) (hI : JInv σ T) (hT : T + 2000 < 2 ^ 30) (hn : n0 ≤ 601024) (hs : s0 ≤ 7293034) (kk : ∀ τ, JInv τ (T + 1800) → lW p l e s m below meth c D ta ad0 b (n0 + 1) (s0 + 6) 1172 (lL k) [] τ) : lW p l e s m below meth c D ta ad0 b n0 s0 599 (lL k) [] σ := by
  have hz := jI_len hI
  have hI0 := jI_0 hI
  obtain ⟨pg, sp, hS, hV⟩ := hI
  obtain ⟨x, τ1, τ2, m1, m2, e1, e2, e3, e4, hJ⟩ := P_machine hS hV hT (xs (6 * k + 1)) (xs (6 * k + 2))
  have hz1 : τ1.2.1.length = 399 := by rw [e2]; exact hz
  have S := C.1
  refine sl_2 (i := 1) (len := 1) S (by decide +kernel) rfl ?_
  refine lc_arg (k := k) C 1 rfl rfl hk (by decide) rfl hz (by decide +kernel) ?_
  refine lc_arg (k := k) C 2 rfl rfl hk (by decide) rfl hz (by decide +kernel) ?_
  refine lc_virt (o := 0) (as := [.int (xs (6 * k + 1)), .int (xs (6 * k + 2))]) (st := []) C (by decide) m1 (by decide +kernel) lk9_machine rfl (by decide) rfl (Nat.le_of_ble_eq_true rfl) hI0.1 e1 e2 hz hn hs ?_
  refine sl_2 (i := 2) (len := 1) S (by decide +kernel) rfl ?_
  refine lc_arg (k := k) C 1 rfl rfl hk (by decide) rfl hz1 (by decide +kernel) ?_
  refine lc_arg (k := k) C 2 rfl rfl hk (by decide) rfl hz1 (by decide +kernel) ?_
  refine lc_virt (o := 371) (as := [.int (xs (6 * k + 1)), .int (xs (6 * k + 2))]) (st := [.int x]) C (by decide) m2 (by decide +kernel) lk10_machine rfl (by decide) rfl (Nat.le_of_ble_eq_true rfl) (by rw [e2]; exact hI0.2.1) (e3.trans e1.symm) (e4.trans e2.symm) hz1 hn hs ?_
  exact sl_18 (b := 0) (tgt := 1172) (len := 3) S (by decide +kernel) (fun _ => sl_wide (Nat.le_succ _) (Nat.le_add_right _ 6) (kk τ2 hJ)) (fun h => absurd rfl h)
theorem lk9_queue : Cond.methodLink RL 88 (mt 139).2.1 ∈ mWT := List.mem_filter.mpr (by decide +kernel)
theorem lk10_queue : Cond.methodLink RL 92 (mt 254).2.1 ∈ mWT := List.mem_filter.mpr (by decide +kernel)
set_option maxHeartbeats 2000000 in
theorem case_queue (C : lC p l s m meth c D ta ad0 b N xs) (hk : 6 * k + 6 ≤ N) (hI : JInv σ T) (hT : T + 2000 < 2 ^ 30) (hn : n0 ≤ 601024) (hs : s0 ≤ 7293034) (kk : ∀ τ, JInv τ (T + 1800) → lW p l e s m below meth c D ta ad0 b (n0 + 1) (s0 + 6) 1172 (lL k) [] τ) : lW p l e s m below meth c D ta ad0 b n0 s0 704 (lL k) [] σ := by
  have hz := jI_len hI
  have hI0 := jI_0 hI
  obtain ⟨pg, sp, hS, hV⟩ := hI
  obtain ⟨x, τ1, τ2, m1, m2, e1, e2, e3, e4, hJ⟩ := P_queue hS hV hT (xs (6 * k + 1)) (xs (6 * k + 2)) (xs (6 * k + 3))
  have hz1 : τ1.2.1.length = 399 := by rw [e2]; exact hz
  have S := C.1
  refine sl_2 (i := 1) (len := 1) S (by decide +kernel) rfl ?_
  refine lc_arg (k := k) C 1 rfl rfl hk (by decide) rfl hz (by decide +kernel) ?_
  refine lc_arg (k := k) C 2 rfl rfl hk (by decide) rfl hz (by decide +kernel) ?_
  refine lc_arg (k := k) C 3 rfl rfl hk (by decide) rfl hz (by decide +kernel) ?_
  refine lc_virt (o := 0) (as := [.int (xs (6 * k + 1)), .int (xs (6 * k + 2)), .int (xs (6 * k + 3))]) (st := []) C (by decide) m1 (by decide +kernel) lk9_queue rfl (by decide) rfl (Nat.le_of_ble_eq_true rfl) hI0.1 e1 e2 hz hn hs ?_
  refine sl_2 (i := 2) (len := 1) S (by decide +kernel) rfl ?_
  refine lc_arg (k := k) C 1 rfl rfl hk (by decide) rfl hz1 (by decide +kernel) ?_
  refine lc_arg (k := k) C 2 rfl rfl hk (by decide) rfl hz1 (by decide +kernel) ?_
  refine lc_arg (k := k) C 3 rfl rfl hk (by decide) rfl hz1 (by decide +kernel) ?_
  refine lc_virt (o := 371) (as := [.int (xs (6 * k + 1)), .int (xs (6 * k + 2)), .int (xs (6 * k + 3))]) (st := [.int x]) C (by decide) m2 (by decide +kernel) lk10_queue rfl (by decide) rfl (Nat.le_of_ble_eq_true rfl) (by rw [e2]; exact hI0.2.1) (e3.trans e1.symm) (e4.trans e2.symm) hz1 hn hs ?_
  exact sl_18 (b := 0) (tgt := 1172) (len := 3) S (by decide +kernel) (fun _ => sl_wide (Nat.le_succ _) (Nat.le_add_right _ 6) (kk τ2 hJ)) (fun h => absurd rfl h)
theorem lk9_timer : Cond.methodLink RL 93 (mt 140).2.1 ∈ mWT := List.mem_filter.mpr (by decide +kernel)
theorem lk10_timer : Cond.methodLink RL 96 (mt 255).2.1 ∈ mWT := List.mem_filter.mpr (by decide +kernel)
set_option maxHeartbeats 2000000 in
theorem case_timer (C : lC p l s m meth c D ta ad0 b N xs) (hk : 6 * k + 6 ≤ N) (hI : JInv σ T) (hT : T + 2000 < 2 ^ 30) (hn : n0 ≤ 601024) (hs : s0 ≤ 7293034) (kk : ∀ τ, JInv τ (T + 1800) → lW p l e s m below meth c D ta ad0 b (n0 + 1) (s0 + 6) 1172 (lL k) [] τ) : lW p l e s m below meth c D ta ad0 b n0 s0 753 (lL k) [] σ := by
  have hz := jI_len hI
  have hI0 := jI_0 hI
  obtain ⟨pg, sp, hS, hV⟩ := hI
  obtain ⟨x, τ1, τ2, m1, m2, e1, e2, e3, e4, hJ⟩ := P_timer hS hV hT (xs (6 * k + 1)) (xs (6 * k + 2)) (xs (6 * k + 3))
  have hz1 : τ1.2.1.length = 399 := by rw [e2]; exact hz
  have S := C.1
  refine sl_2 (i := 1) (len := 1) S (by decide +kernel) rfl ?_
  refine lc_arg (k := k) C 1 rfl rfl hk (by decide) rfl hz (by decide +kernel) ?_
  refine lc_arg (k := k) C 2 rfl rfl hk (by decide) rfl hz (by decide +kernel) ?_
  refine lc_arg (k := k) C 3 rfl rfl hk (by decide) rfl hz (by decide +kernel) ?_
  refine lc_virt (o := 0) (as := [.int (xs (6 * k + 1)), .int (xs (6 * k + 2)), .int (xs (6 * k + 3))]) (st := []) C (by decide) m1 (by decide +kernel) lk9_timer rfl (by decide) rfl (Nat.le_of_ble_eq_true rfl) hI0.1 e1 e2 hz hn hs ?_
  refine sl_2 (i := 2) (len := 1) S (by decide +kernel) rfl ?_
  refine lc_arg (k := k) C 1 rfl rfl hk (by decide) rfl hz1 (by decide +kernel) ?_
  refine lc_arg (k := k) C 2 rfl rfl hk (by decide) rfl hz1 (by decide +kernel) ?_
  refine lc_arg (k := k) C 3 rfl rfl hk (by decide) rfl hz1 (by decide +kernel) ?_
  refine lc_virt (o := 371) (as := [.int (xs (6 * k + 1)), .int (xs (6 * k + 2)), .int (xs (6 * k + 3))]) (st := [.int x]) C (by decide) m2 (by decide +kernel) lk10_timer rfl (by decide) rfl (Nat.le_of_ble_eq_true rfl) (by rw [e2]; exact hI0.2.1) (e3.trans e1.symm) (e4.trans e2.symm) hz1 hn hs ?_
  exact sl_18 (b := 0) (tgt := 1172) (len := 3) S (by decide +kernel) (fun _ => sl_wide (Nat.le_succ _) (Nat.le_add_right _ 6) (kk τ2 hJ)) (fun h => absurd rfl h)
theorem lk9_link : Cond.methodLink RL 97 (mt 141).2.1 ∈ mWT := List.mem_filter.mpr (by decide +kernel)
theorem lk10_link : Cond.methodLink RL 100 (mt 256).2.1 ∈ mWT := List.mem_filter.mpr (by decide +kernel)
set_option maxHeartbeats 2000000 in
theorem case_link (C : lC p l s m meth c D ta ad0 b N xs) (hk : 6 * k + 6 ≤ N) (hI : JInv σ T) (hT : T + 2000 < 2 ^ 30) (hn : n0 ≤ 601024) (hs : s0 ≤ 7293034) (kk : ∀ τ, JInv τ (T + 1800) → lW p l e s m below meth c D ta ad0 b (n0 + 1) (s0 + 6) 1172 (lL k) [] τ) : lW p l e s m below meth c D ta ad0 b n0 s0 802 (lL k) [] σ := by
  have hz := jI_len hI
  have hI0 := jI_0 hI
  obtain ⟨pg, sp, hS, hV⟩ := hI
  obtain ⟨x, τ1, τ2, m1, m2, e1, e2, e3, e4, hJ⟩ := P_link hS hV hT (xs (6 * k + 1)) (xs (6 * k + 2)) (xs (6 * k + 3))
  have hz1 : τ1.2.1.length = 399 := by rw [e2]; exact hz
  have S := C.1
  refine sl_2 (i := 1) (len := 1) S (by decide +kernel) rfl ?_
  refine lc_arg (k := k) C 1 rfl rfl hk (by decide) rfl hz (by decide +kernel) ?_
  refine lc_arg (k := k) C 2 rfl rfl hk (by decide) rfl hz (by decide +kernel) ?_
  refine lc_arg (k := k) C 3 rfl rfl hk (by decide) rfl hz (by decide +kernel) ?_
  refine lc_virt (o := 0) (as := [.int (xs (6 * k + 1)), .int (xs (6 * k + 2)), .int (xs (6 * k + 3))]) (st := []) C (by decide) m1 (by decide +kernel) lk9_link rfl (by decide) rfl (Nat.le_of_ble_eq_true rfl) hI0.1 e1 e2 hz hn hs ?_
  refine sl_2 (i := 2) (len := 1) S (by decide +kernel) rfl ?_
  refine lc_arg (k := k) C 1 rfl rfl hk (by decide) rfl hz1 (by decide +kernel) ?_
  refine lc_arg (k := k) C 2 rfl rfl hk (by decide) rfl hz1 (by decide +kernel) ?_
  refine lc_arg (k := k) C 3 rfl rfl hk (by decide) rfl hz1 (by decide +kernel) ?_
  refine lc_virt (o := 371) (as := [.int (xs (6 * k + 1)), .int (xs (6 * k + 2)), .int (xs (6 * k + 3))]) (st := [.int x]) C (by decide) m2 (by decide +kernel) lk10_link rfl (by decide) rfl (Nat.le_of_ble_eq_true rfl) (by rw [e2]; exact hI0.2.1) (e3.trans e1.symm) (e4.trans e2.symm) hz1 hn hs ?_
  exact sl_18 (b := 0) (tgt := 1172) (len := 3) S (by decide +kernel) (fun _ => sl_wide (Nat.le_succ _) (Nat.le_add_right _ 6) (kk τ2 hJ)) (fun h => absurd rfl h)
theorem lk9_meeting : Cond.methodLink RL 101 (mt 142).2.1 ∈ mWT := List.mem_filter.mpr (by decide +kernel)
theorem lk10_meeting : Cond.methodLink RL 104 (mt 257).2.1 ∈ mWT := List.mem_filter.mpr (by decide +kernel)
set_option maxHeartbeats 2000000 in
theorem case_meeting (C : lC p l s m meth c D ta ad0 b N xs) (hk : 6 * k + 6 ≤ N) (hI : JInv σ T) (hT : T + 2000 < 2 ^ 30) (hn : n0 ≤ 601024) (hs : s0 ≤ 7293034) (kk : ∀ τ, JInv τ (T + 1800) → lW p l e s m below meth c D ta ad0 b (n0 + 1) (s0 + 6) 1172 (lL k) [] τ) : lW p l e s m below meth c D ta ad0 b n0 s0 851 (lL k) [] σ := by
  have hz := jI_len hI
  have hI0 := jI_0 hI
  obtain ⟨pg, sp, hS, hV⟩ := hI
  obtain ⟨x, τ1, τ2, m1, m2, e1, e2, e3, e4, hJ⟩ := P_meeting hS hV hT (xs (6 * k + 1)) (xs (6 * k + 2))
  have hz1 : τ1.2.1.length = 399 := by rw [e2]; exact hz
  have S := C.1
  refine sl_2 (i := 1) (len := 1) S (by decide +kernel) rfl ?_
  refine lc_arg (k := k) C 1 rfl rfl hk (by decide) rfl hz (by decide +kernel) ?_
  refine lc_arg (k := k) C 2 rfl rfl hk (by decide) rfl hz (by decide +kernel) ?_
  refine lc_virt (o := 0) (as := [.int (xs (6 * k + 1)), .int (xs (6 * k + 2))]) (st := []) C (by decide) m1 (by decide +kernel) lk9_meeting rfl (by decide) rfl (Nat.le_of_ble_eq_true rfl) hI0.1 e1 e2 hz hn hs ?_
  refine sl_2 (i := 2) (len := 1) S (by decide +kernel) rfl ?_
  refine lc_arg (k := k) C 1 rfl rfl hk (by decide) rfl hz1 (by decide +kernel) ?_
  refine lc_arg (k := k) C 2 rfl rfl hk (by decide) rfl hz1 (by decide +kernel) ?_
  refine lc_virt (o := 371) (as := [.int (xs (6 * k + 1)), .int (xs (6 * k + 2))]) (st := [.int x]) C (by decide) m2 (by decide +kernel) lk10_meeting rfl (by decide) rfl (Nat.le_of_ble_eq_true rfl) (by rw [e2]; exact hI0.2.1) (e3.trans e1.symm) (e4.trans e2.symm) hz1 hn hs ?_
  exact sl_18 (b := 0) (tgt := 1172) (len := 3) S (by decide +kernel) (fun _ => sl_wide (Nat.le_succ _) (Nat.le_add_right _ 6) (kk τ2 hJ)) (fun h => absurd rfl h)
theorem lk9_stuck : Cond.methodLink RL 105 (mt 143).2.1 ∈ mWT := List.mem_filter.mpr (by decide +kernel)
theorem lk10_stuck : Cond.methodLink RL 109 (mt 259).2.1 ∈ mWT := List.mem_filter.mpr (by decide +kernel)
set_option maxHeartbeats 2000000 in
theorem case_stuck (C : lC p l s m meth c D ta ad0 b N xs) (hk : 6 * k + 6 ≤ N) (hI : JInv σ T) (hT : T + 2000 < 2 ^ 30) (hn : n0 ≤ 601024) (hs : s0 ≤ 7293034) (kk : ∀ τ, JInv τ (T + 1800) → lW p l e s m below meth c D ta ad0 b (n0 + 1) (s0 + 6) 1172 (lL k) [] τ) : lW p l e s m below meth c D ta ad0 b n0 s0 888 (lL k) [] σ := by
  have hz := jI_len hI
  have hI0 := jI_0 hI
  obtain ⟨pg, sp, hS, hV⟩ := hI
  obtain ⟨x, τ1, τ2, m1, m2, e1, e2, e3, e4, hJ⟩ := P_stuck hS hV hT 
  have hz1 : τ1.2.1.length = 399 := by rw [e2]; exact hz
  have S := C.1
  refine sl_2 (i := 1) (len := 1) S (by decide +kernel) rfl ?_
  refine lc_virt (o := 0) (as := []) (st := []) C (by decide) m1 (by decide +kernel) lk9_stuck rfl (by decide) rfl (Nat.le_of_ble_eq_true rfl) hI0.1 e1 e2 hz hn hs ?_
  refine sl_2 (i := 2) (len := 1) S (by decide +kernel) rfl ?_
  refine lc_virt (o := 371) (as := []) (st := [.int x]) C (by decide) m2 (by decide +kernel) lk10_stuck rfl (by decide) rfl (Nat.le_of_ble_eq_true rfl) (by rw [e2]; exact hI0.2.1) (e3.trans e1.symm) (e4.trans e2.symm) hz1 hn hs ?_
  exact sl_18 (b := 0) (tgt := 1172) (len := 3) S (by decide +kernel) (fun _ => sl_wide (Nat.le_succ _) (Nat.le_add_right _ 6) (kk τ2 hJ)) (fun h => absurd rfl h)
theorem lk9_ahead : Cond.methodLink RL 110 (mt 144).2.1 ∈ mWT := List.mem_filter.mpr (by decide +kernel)
theorem lk10_ahead : Cond.methodLink RL 113 (mt 263).2.1 ∈ mWT := List.mem_filter.mpr (by decide +kernel)
set_option maxHeartbeats 2000000 in
theorem case_ahead (C : lC p l s m meth c D ta ad0 b N xs) (hk : 6 * k + 6 ≤ N) (hI : JInv σ T) (hT : T + 2000 < 2 ^ 30) (hn : n0 ≤ 601024) (hs : s0 ≤ 7293034) (kk : ∀ τ, JInv τ (T + 1800) → lW p l e s m below meth c D ta ad0 b (n0 + 1) (s0 + 6) 1172 (lL k) [] τ) : lW p l e s m below meth c D ta ad0 b n0 s0 901 (lL k) [] σ := by
  have hz := jI_len hI
  have hI0 := jI_0 hI
  obtain ⟨pg, sp, hS, hV⟩ := hI
  obtain ⟨x, τ1, τ2, m1, m2, e1, e2, e3, e4, hJ⟩ := P_ahead hS hV hT (xs (6 * k + 1)) (xs (6 * k + 2))
  have hz1 : τ1.2.1.length = 399 := by rw [e2]; exact hz
  have S := C.1
  refine sl_2 (i := 1) (len := 1) S (by decide +kernel) rfl ?_
  refine lc_arg (k := k) C 1 rfl rfl hk (by decide) rfl hz (by decide +kernel) ?_
  refine lc_arg (k := k) C 2 rfl rfl hk (by decide) rfl hz (by decide +kernel) ?_
  refine lc_virt (o := 0) (as := [.int (xs (6 * k + 1)), .int (xs (6 * k + 2))]) (st := []) C (by decide) m1 (by decide +kernel) lk9_ahead rfl (by decide) rfl (Nat.le_of_ble_eq_true rfl) hI0.1 e1 e2 hz hn hs ?_
  refine sl_2 (i := 2) (len := 1) S (by decide +kernel) rfl ?_
  refine lc_arg (k := k) C 1 rfl rfl hk (by decide) rfl hz1 (by decide +kernel) ?_
  refine lc_arg (k := k) C 2 rfl rfl hk (by decide) rfl hz1 (by decide +kernel) ?_
  refine lc_virt (o := 371) (as := [.int (xs (6 * k + 1)), .int (xs (6 * k + 2))]) (st := [.int x]) C (by decide) m2 (by decide +kernel) lk10_ahead rfl (by decide) rfl (Nat.le_of_ble_eq_true rfl) (by rw [e2]; exact hI0.2.1) (e3.trans e1.symm) (e4.trans e2.symm) hz1 hn hs ?_
  exact sl_18 (b := 0) (tgt := 1172) (len := 3) S (by decide +kernel) (fun _ => sl_wide (Nat.le_succ _) (Nat.le_add_right _ 6) (kk τ2 hJ)) (fun h => absurd rfl h)
theorem lk9_share : Cond.methodLink RL 114 (mt 146).2.1 ∈ mWT := List.mem_filter.mpr (by decide +kernel)
theorem lk10_share : Cond.methodLink RL 117 (mt 264).2.1 ∈ mWT := List.mem_filter.mpr (by decide +kernel)
set_option maxHeartbeats 2000000 in
theorem case_share (C : lC p l s m meth c D ta ad0 b N xs) (hk : 6 * k + 6 ≤ N) (hI : JInv σ T) (hT : T + 2000 < 2 ^ 30) (hn : n0 ≤ 601024) (hs : s0 ≤ 7293034) (kk : ∀ τ, JInv τ (T + 1800) → lW p l e s m below meth c D ta ad0 b (n0 + 1) (s0 + 6) 1172 (lL k) [] τ) : lW p l e s m below meth c D ta ad0 b n0 s0 938 (lL k) [] σ := by
  have hz := jI_len hI
  have hI0 := jI_0 hI
  obtain ⟨pg, sp, hS, hV⟩ := hI
  obtain ⟨x, τ1, τ2, m1, m2, e1, e2, e3, e4, hJ⟩ := P_share hS hV hT (xs (6 * k + 1)) (xs (6 * k + 2)) (xs (6 * k + 3))
  have hz1 : τ1.2.1.length = 399 := by rw [e2]; exact hz
  have S := C.1
  refine sl_2 (i := 1) (len := 1) S (by decide +kernel) rfl ?_
  refine lc_arg (k := k) C 1 rfl rfl hk (by decide) rfl hz (by decide +kernel) ?_
  refine lc_arg (k := k) C 2 rfl rfl hk (by decide) rfl hz (by decide +kernel) ?_
  refine lc_arg (k := k) C 3 rfl rfl hk (by decide) rfl hz (by decide +kernel) ?_
  refine lc_virt (o := 0) (as := [.int (xs (6 * k + 1)), .int (xs (6 * k + 2)), .int (xs (6 * k + 3))]) (st := []) C (by decide) m1 (by decide +kernel) lk9_share rfl (by decide) rfl (Nat.le_of_ble_eq_true rfl) hI0.1 e1 e2 hz hn hs ?_
  refine sl_2 (i := 2) (len := 1) S (by decide +kernel) rfl ?_
  refine lc_arg (k := k) C 1 rfl rfl hk (by decide) rfl hz1 (by decide +kernel) ?_
  refine lc_arg (k := k) C 2 rfl rfl hk (by decide) rfl hz1 (by decide +kernel) ?_
  refine lc_arg (k := k) C 3 rfl rfl hk (by decide) rfl hz1 (by decide +kernel) ?_
  refine lc_virt (o := 371) (as := [.int (xs (6 * k + 1)), .int (xs (6 * k + 2)), .int (xs (6 * k + 3))]) (st := [.int x]) C (by decide) m2 (by decide +kernel) lk10_share rfl (by decide) rfl (Nat.le_of_ble_eq_true rfl) (by rw [e2]; exact hI0.2.1) (e3.trans e1.symm) (e4.trans e2.symm) hz1 hn hs ?_
  exact sl_18 (b := 0) (tgt := 1172) (len := 3) S (by decide +kernel) (fun _ => sl_wide (Nat.le_succ _) (Nat.le_add_right _ 6) (kk τ2 hJ)) (fun h => absurd rfl h)
theorem lk9_until : Cond.methodLink RL 118 (mt 147).2.1 ∈ mWT := List.mem_filter.mpr (by decide +kernel)
theorem lk10_until : Cond.methodLink RL 122 (mt 265).2.1 ∈ mWT := List.mem_filter.mpr (by decide +kernel)
set_option maxHeartbeats 2000000 in
theorem case_until (C : lC p l s m meth c D ta ad0 b N xs) (hk : 6 * k + 6 ≤ N) (hI : JInv σ T) (hT : T + 2000 < 2 ^ 30) (hn : n0 ≤ 601024) (hs : s0 ≤ 7293034) (kk : ∀ τ, JInv τ (T + 1800) → lW p l e s m below meth c D ta ad0 b (n0 + 1) (s0 + 6) 1172 (lL k) [] τ) : lW p l e s m below meth c D ta ad0 b n0 s0 987 (lL k) [] σ := by
  have hz := jI_len hI
  have hI0 := jI_0 hI
  obtain ⟨pg, sp, hS, hV⟩ := hI
  obtain ⟨x, τ1, τ2, m1, m2, e1, e2, e3, e4, hJ⟩ := P_until hS hV hT (xs (6 * k + 1)) (xs (6 * k + 2)) (xs (6 * k + 3)) (xs (6 * k + 4))
  have hz1 : τ1.2.1.length = 399 := by rw [e2]; exact hz
  have S := C.1
  refine sl_2 (i := 1) (len := 1) S (by decide +kernel) rfl ?_
  refine lc_arg (k := k) C 1 rfl rfl hk (by decide) rfl hz (by decide +kernel) ?_
  refine lc_arg (k := k) C 2 rfl rfl hk (by decide) rfl hz (by decide +kernel) ?_
  refine lc_arg (k := k) C 3 rfl rfl hk (by decide) rfl hz (by decide +kernel) ?_
  refine lc_arg (k := k) C 4 rfl rfl hk (by decide) rfl hz (by decide +kernel) ?_
  refine lc_virt (o := 0) (as := [.int (xs (6 * k + 1)), .int (xs (6 * k + 2)), .int (xs (6 * k + 3)), .int (xs (6 * k + 4))]) (st := []) C (by decide) m1 (by decide +kernel) lk9_until rfl (by decide) rfl (Nat.le_of_ble_eq_true rfl) hI0.1 e1 e2 hz hn hs ?_
  refine sl_2 (i := 2) (len := 1) S (by decide +kernel) rfl ?_
  refine lc_arg (k := k) C 1 rfl rfl hk (by decide) rfl hz1 (by decide +kernel) ?_
  refine lc_arg (k := k) C 2 rfl rfl hk (by decide) rfl hz1 (by decide +kernel) ?_
  refine lc_arg (k := k) C 3 rfl rfl hk (by decide) rfl hz1 (by decide +kernel) ?_
  refine lc_arg (k := k) C 4 rfl rfl hk (by decide) rfl hz1 (by decide +kernel) ?_
  refine lc_virt (o := 371) (as := [.int (xs (6 * k + 1)), .int (xs (6 * k + 2)), .int (xs (6 * k + 3)), .int (xs (6 * k + 4))]) (st := [.int x]) C (by decide) m2 (by decide +kernel) lk10_until rfl (by decide) rfl (Nat.le_of_ble_eq_true rfl) (by rw [e2]; exact hI0.2.1) (e3.trans e1.symm) (e4.trans e2.symm) hz1 hn hs ?_
  exact sl_18 (b := 0) (tgt := 1172) (len := 3) S (by decide +kernel) (fun _ => sl_wide (Nat.le_succ _) (Nat.le_add_right _ 6) (kk τ2 hJ)) (fun h => absurd rfl h)
theorem lk9_slices : Cond.methodLink RL 123 (mt 148).2.1 ∈ mWT := List.mem_filter.mpr (by decide +kernel)
theorem lk10_slices : Cond.methodLink RL 126 (mt 266).2.1 ∈ mWT := List.mem_filter.mpr (by decide +kernel)
set_option maxHeartbeats 2000000 in
theorem case_slices (C : lC p l s m meth c D ta ad0 b N xs) (hk : 6 * k + 6 ≤ N) (hI : JInv σ T) (hT : T + 2000 < 2 ^ 30) (hn : n0 ≤ 601024) (hs : s0 ≤ 7293034) (kk : ∀ τ, JInv τ (T + 1800) → lW p l e s m below meth c D ta ad0 b (n0 + 1) (s0 + 6) 1172 (lL k) [] τ) : lW p l e s m below meth c D ta ad0 b n0 s0 1048 (lL k) [] σ := by
  have hz := jI_len hI
  have hI0 := jI_0 hI
  obtain ⟨pg, sp, hS, hV⟩ := hI
  obtain ⟨x, τ1, τ2, m1, m2, e1, e2, e3, e4, hJ⟩ := P_slices hS hV hT (xs (6 * k + 1)) (xs (6 * k + 2)) (xs (6 * k + 3))
  have hz1 : τ1.2.1.length = 399 := by rw [e2]; exact hz
  have S := C.1
  refine sl_2 (i := 1) (len := 1) S (by decide +kernel) rfl ?_
  refine lc_arg (k := k) C 1 rfl rfl hk (by decide) rfl hz (by decide +kernel) ?_
  refine lc_arg (k := k) C 2 rfl rfl hk (by decide) rfl hz (by decide +kernel) ?_
  refine lc_arg (k := k) C 3 rfl rfl hk (by decide) rfl hz (by decide +kernel) ?_
  refine lc_virt (o := 0) (as := [.int (xs (6 * k + 1)), .int (xs (6 * k + 2)), .int (xs (6 * k + 3))]) (st := []) C (by decide) m1 (by decide +kernel) lk9_slices rfl (by decide) rfl (Nat.le_of_ble_eq_true rfl) hI0.1 e1 e2 hz hn hs ?_
  refine sl_2 (i := 2) (len := 1) S (by decide +kernel) rfl ?_
  refine lc_arg (k := k) C 1 rfl rfl hk (by decide) rfl hz1 (by decide +kernel) ?_
  refine lc_arg (k := k) C 2 rfl rfl hk (by decide) rfl hz1 (by decide +kernel) ?_
  refine lc_arg (k := k) C 3 rfl rfl hk (by decide) rfl hz1 (by decide +kernel) ?_
  refine lc_virt (o := 371) (as := [.int (xs (6 * k + 1)), .int (xs (6 * k + 2)), .int (xs (6 * k + 3))]) (st := [.int x]) C (by decide) m2 (by decide +kernel) lk10_slices rfl (by decide) rfl (Nat.le_of_ble_eq_true rfl) (by rw [e2]; exact hI0.2.1) (e3.trans e1.symm) (e4.trans e2.symm) hz1 hn hs ?_
  exact sl_18 (b := 0) (tgt := 1172) (len := 3) S (by decide +kernel) (fun _ => sl_wide (Nat.le_succ _) (Nat.le_add_right _ 6) (kk τ2 hJ)) (fun h => absurd rfl h)
theorem lk9_keep : Cond.methodLink RL 127 (mt 150).2.1 ∈ mWT := List.mem_filter.mpr (by decide +kernel)
theorem lk10_keep : Cond.methodLink RL 130 (mt 267).2.1 ∈ mWT := List.mem_filter.mpr (by decide +kernel)
set_option maxHeartbeats 2000000 in
theorem case_keep (C : lC p l s m meth c D ta ad0 b N xs) (hk : 6 * k + 6 ≤ N) (hI : JInv σ T) (hT : T + 2000 < 2 ^ 30) (hn : n0 ≤ 601024) (hs : s0 ≤ 7293034) (kk : ∀ τ, JInv τ (T + 1800) → lW p l e s m below meth c D ta ad0 b (n0 + 1) (s0 + 6) 1172 (lL k) [] τ) : lW p l e s m below meth c D ta ad0 b n0 s0 1097 (lL k) [] σ := by
  have hz := jI_len hI
  have hI0 := jI_0 hI
  obtain ⟨pg, sp, hS, hV⟩ := hI
  obtain ⟨x, τ1, τ2, m1, m2, e1, e2, e3, e4, hJ⟩ := P_keep hS hV hT (xs (6 * k + 1))
  have hz1 : τ1.2.1.length = 399 := by rw [e2]; exact hz
  have S := C.1
  refine sl_2 (i := 1) (len := 1) S (by decide +kernel) rfl ?_
  refine lc_arg (k := k) C 1 rfl rfl hk (by decide) rfl hz (by decide +kernel) ?_
  refine lc_virt (o := 0) (as := [.int (xs (6 * k + 1))]) (st := []) C (by decide) m1 (by decide +kernel) lk9_keep rfl (by decide) rfl (Nat.le_of_ble_eq_true rfl) hI0.1 e1 e2 hz hn hs ?_
  refine sl_2 (i := 2) (len := 1) S (by decide +kernel) rfl ?_
  refine lc_arg (k := k) C 1 rfl rfl hk (by decide) rfl hz1 (by decide +kernel) ?_
  refine lc_virt (o := 371) (as := [.int (xs (6 * k + 1))]) (st := [.int x]) C (by decide) m2 (by decide +kernel) lk10_keep rfl (by decide) rfl (Nat.le_of_ble_eq_true rfl) (by rw [e2]; exact hI0.2.1) (e3.trans e1.symm) (e4.trans e2.symm) hz1 hn hs ?_
  exact sl_18 (b := 0) (tgt := 1172) (len := 3) S (by decide +kernel) (fun _ => sl_wide (Nat.le_succ _) (Nat.le_add_right _ 6) (kk τ2 hJ)) (fun h => absurd rfl h)
theorem lk9_back : Cond.methodLink RL 131 (mt 151).2.1 ∈ mWT := List.mem_filter.mpr (by decide +kernel)
theorem lk10_back : Cond.methodLink RL 134 (mt 268).2.1 ∈ mWT := List.mem_filter.mpr (by decide +kernel)
set_option maxHeartbeats 2000000 in
theorem case_back (C : lC p l s m meth c D ta ad0 b N xs) (hk : 6 * k + 6 ≤ N) (hI : JInv σ T) (hT : T + 2000 < 2 ^ 30) (hn : n0 ≤ 601024) (hs : s0 ≤ 7293034) (kk : ∀ τ, JInv τ (T + 1800) → lW p l e s m below meth c D ta ad0 b (n0 + 1) (s0 + 6) 1172 (lL k) [] τ) : lW p l e s m below meth c D ta ad0 b n0 s0 1122 (lL k) [] σ := by
  have hz := jI_len hI
  have hI0 := jI_0 hI
  obtain ⟨pg, sp, hS, hV⟩ := hI
  obtain ⟨x, τ1, τ2, m1, m2, e1, e2, e3, e4, hJ⟩ := P_back hS hV hT (xs (6 * k + 1))
  have hz1 : τ1.2.1.length = 399 := by rw [e2]; exact hz
  have S := C.1
  refine sl_2 (i := 1) (len := 1) S (by decide +kernel) rfl ?_
  refine lc_arg (k := k) C 1 rfl rfl hk (by decide) rfl hz (by decide +kernel) ?_
  refine lc_virt (o := 0) (as := [.int (xs (6 * k + 1))]) (st := []) C (by decide) m1 (by decide +kernel) lk9_back rfl (by decide) rfl (Nat.le_of_ble_eq_true rfl) hI0.1 e1 e2 hz hn hs ?_
  refine sl_2 (i := 2) (len := 1) S (by decide +kernel) rfl ?_
  refine lc_arg (k := k) C 1 rfl rfl hk (by decide) rfl hz1 (by decide +kernel) ?_
  refine lc_virt (o := 371) (as := [.int (xs (6 * k + 1))]) (st := [.int x]) C (by decide) m2 (by decide +kernel) lk10_back rfl (by decide) rfl (Nat.le_of_ble_eq_true rfl) (by rw [e2]; exact hI0.2.1) (e3.trans e1.symm) (e4.trans e2.symm) hz1 hn hs ?_
  exact sl_18 (b := 0) (tgt := 1172) (len := 3) S (by decide +kernel) (fun _ => sl_wide (Nat.le_succ _) (Nat.le_add_right _ 6) (kk τ2 hJ)) (fun h => absurd rfl h)
theorem lk9_count : Cond.methodLink RL 135 (mt 152).2.1 ∈ mWT := List.mem_filter.mpr (by decide +kernel)
theorem lk10_count : Cond.methodLink RL 138 (mt 269).2.1 ∈ mWT := List.mem_filter.mpr (by decide +kernel)
set_option maxHeartbeats 2000000 in
theorem case_count (C : lC p l s m meth c D ta ad0 b N xs) (hk : 6 * k + 6 ≤ N) (hI : JInv σ T) (hT : T + 2000 < 2 ^ 30) (hn : n0 ≤ 601024) (hs : s0 ≤ 7293034) (kk : ∀ τ, JInv τ (T + 1800) → lW p l e s m below meth c D ta ad0 b (n0 + 1) (s0 + 6) 1172 (lL k) [] τ) : lW p l e s m below meth c D ta ad0 b n0 s0 1147 (lL k) [] σ := by
  have hz := jI_len hI
  have hI0 := jI_0 hI
  obtain ⟨pg, sp, hS, hV⟩ := hI
  obtain ⟨x, τ1, τ2, m1, m2, e1, e2, e3, e4, hJ⟩ := P_count hS hV hT (xs (6 * k + 1))
  have hz1 : τ1.2.1.length = 399 := by rw [e2]; exact hz
  have S := C.1
  refine sl_2 (i := 1) (len := 1) S (by decide +kernel) rfl ?_
  refine lc_arg (k := k) C 1 rfl rfl hk (by decide) rfl hz (by decide +kernel) ?_
  refine lc_virt (o := 0) (as := [.int (xs (6 * k + 1))]) (st := []) C (by decide) m1 (by decide +kernel) lk9_count rfl (by decide) rfl (Nat.le_of_ble_eq_true rfl) hI0.1 e1 e2 hz hn hs ?_
  refine sl_2 (i := 2) (len := 1) S (by decide +kernel) rfl ?_
  refine lc_arg (k := k) C 1 rfl rfl hk (by decide) rfl hz1 (by decide +kernel) ?_
  refine lc_virt (o := 371) (as := [.int (xs (6 * k + 1))]) (st := [.int x]) C (by decide) m2 (by decide +kernel) lk10_count rfl (by decide) rfl (Nat.le_of_ble_eq_true rfl) (by rw [e2]; exact hI0.2.1) (e3.trans e1.symm) (e4.trans e2.symm) hz1 hn hs ?_
  exact sl_18 (b := 0) (tgt := 1172) (len := 3) S (by decide +kernel) (fun _ => sl_wide (Nat.le_succ _) (Nat.le_add_right _ 6) (kk τ2 hJ)) (fun h => absurd rfl h)
end LCS
