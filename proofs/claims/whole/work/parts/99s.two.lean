/-! THE LAW: the two cases that may be refused (GENERATED, wip/gen/p/99s.py) -/
section LCR
variable {p : Program} {l : Launch} {e : Env} {R : Room} {s : State} {m : MethodId} {args : Array Value} {below : List Frame} {meth : Method} {c : Code} {cc : ByteArray} {D : va_G} {ta : Nat → ClassId} {A : Nat → Prop} {ad0 : Nat → Nat} {n0 s0 nL : Nat} {Q : State → Prop} {pc j : Nat} {L : mL} {st : List Value} {σ : mMH}
/-- a call of a helper of the law, which has a handler -/
theorem sl_help (S : CallFix p m c cc nL s args (mWS j) RL) (hKs : mKs D ta ad0 A s) (hZ : mZs A s) (hA : ∀ q, s.heap.size ≤ q → A q) {y : MethodName} {cl : ByteArray} {idx mc ms : Nat} {as : List Value} {σ' : mMH} {x : Int32} (hRf : 11 ≤ R.frames) (hRl : 330 ≤ R.locals) (hM : ∀ (ad : Nat → Nat) (sz : Nat), Met l y (mLW y cl) (mRm 10 mc ms) (mPx D ta ad sz as σ) (mQc D ta ad sz σ (some x) σ') mc ms (va_A (mWs ta ad σ) sz)) (hw : Cond.codeWith y cl 5 (some .int) hhT ∈ mWT) (h1 : Cond.static y ∈ mWT) (h2 : Cond.initialized y.cls ∈ mWT) (h3 : Cond.methodLink RL idx y ∈ mWT) (hd : y.cls ≠ "java/lang/invoke/MethodHandle" ∧ y.cls ≠ "java/lang/invoke/VarHandle" ∧ (parseMethodDescriptor y.desc).map (fun d => d.parameters.length) = some 4) (hlen : as.length = 4) (hck : mDc cc pc (.invokestatic idx) 3 = true) (hle : mLe σ σ') (hout : mOut σ.2.1.length σ'.2.1.length L st) (hsz : mSz st ≤ 8) (hRc : n0 + mc ≤ R.cells) (hRs : s0 + ms ≤ R.slots) (kk : lG p l e R s m args below meth c D ta A ad0 (n0 + mc) (s0 + ms) nL Q (pc + 3) L (.int x :: st) σ') : lG p l e R s m args below meth c D ta A ad0 n0 s0 nL Q pc L (as.reverse ++ st) σ := by
  refine sl_call (r' := some x) (mc := mc) (ms := ms) S hA hle hout ?_ kk
  intro ad H locs ls cells slots b1 b2 b3 a2 a3 a4 a5 a8
  have hroom := lv_room (m := m) (pc := pc) (ls := ls) (rest := (as.reverse ++ st).map (mCv ad)) (st := st.map (mCv ad)) (by rw [mSz_cv]; exact hsz)
  have hG : GoodIn (mWS j) (va_wsS RL idx y (mLW y cl)) := by
    intro w hw'
    have : w ∈ mWT := by
      rcases List.mem_append.mp hw' with h | h
      · simp only [List.mem_cons, List.not_mem_nil, or_false] at h
        rcases h with rfl | rfl | rfl
        · exact h3
        · exact h1
        · exact h2
      · rcases List.mem_cons.mp h with rfl | h
        · exact hw
        · exact h
    exact ⟨List.mem_cons_of_mem _ this, good_of_word (mWT_good this)⟩
  exact vx_runSW (As := as.map (mCv ad)) S (hM ad H.size) (vx_cwSW 4 S.2.2.2.2 hG rfl rfl rfl hd ⟨hRf, by show 8 + (5 + 11) + 30 * 10 ≤ R.locals; omega⟩) ⟨mPx_blind, fun U hU hW => ⟨mPc_at hKs hU hW a4 a5 b2 b3 b1, mZs_to hZ hW (by rw [hU]; exact b2) b3⟩⟩ rfl (by simpa using hlen) a8.1 (by simp [List.map_reverse]) hroom (mDc_ok hck) ⟨by omega, by omega⟩
end LCR
theorem lk10_thrown : Cond.methodLink RL 43 (mt 161).2.1 ∈ mWT := List.mem_filter.mpr (by decide +kernel)
theorem lw_L1 (x y : Int32) (k : Nat) : ∀ (i : Nat) (v : Value), (lL k)[i]? = some (some v) → ([some (.ref 1000100), some (.ref 0), some (.ref 371), some (.ref 398), some (.int (nI (6 * k))), some (.int x), some (.int y)] : mL)[i]? = some (some v) := by
  intro i v h
  match i, h with
  | 0, h => exact h
  | 1, h => exact h
  | 2, h => exact h
  | 3, h => exact h
  | 4, h => exact h
  | 5, h => cases h
  | 6, h => cases h
section LCS
variable {p : Program} {l : Launch} {e : Env} {s : State} {m : MethodId} {below : List Frame} {meth : Method} {c : Code} {D : va_G} {ta : Nat → ClassId} {ad0 : Nat → Nat} {b N : Nat} {xs : Nat → Int32} {n0 s0 pc k T : Nat} {L : mL} {st : List Value} {σ : mMH}
theorem lh1_code : Cond.codeWith yL_code cL_code 5 (some .int) hhT ∈ mWT := List.mem_filter.mpr (by decide +kernel)
theorem lh2_code : Cond.static yL_code ∈ mWT := List.mem_filter.mpr (by decide +kernel)
theorem lh3_code : Cond.initialized yL_code.cls ∈ mWT := List.mem_filter.mpr (by decide +kernel)
theorem lh4_code : Cond.methodLink RL 37 yL_code ∈ mWT := List.mem_filter.mpr (by decide +kernel)
theorem lk10_code : Cond.methodLink RL 42 (mt 236).2.1 ∈ mWT := List.mem_filter.mpr (by decide +kernel)
set_option maxHeartbeats 4000000 in
theorem case_code (C : lC p l s m meth c D ta ad0 b N xs) (hk : 6 * k + 6 ≤ N) (hI : JInv σ T) (hT : T + 2000 < 2 ^ 30) (hn : n0 + 1 ≤ 601024) (hs : s0 + 6 ≤ 7293034) (kk : ∀ τ, JInv τ (T + 1800) → lW p l e s m below meth c D ta ad0 b (n0 + 1) (s0 + 6) 1172 (lL k) [] τ) : lW p l e s m below meth c D ta ad0 b n0 s0 271 (lL k) [] σ := by
  have hz := jI_len hI
  have hI0 := jI_0 hI
  obtain ⟨pg, sp, hS, hV⟩ := hI
  have S := C.1
  refine sl_2 (i := 1) (len := 1) S (by decide +kernel) rfl ?_
  refine lc_arg (k := k) C 1 rfl rfl hk (by decide) rfl hz (by decide +kernel) ?_
  refine lc_arg (k := k) C 2 rfl rfl hk (by decide) rfl hz (by decide +kernel) ?_
  refine sl_2 (i := 3) (len := 1) S (by decide +kernel) rfl ?_
  rcases P_code hS hV (xs (6 * k + 1)) (xs (6 * k + 2)) with ⟨a, τ, m1, m2, m3, e1, e2, e3, hJ⟩ | ⟨hX, a, τ, m2, m3, e1, e2, hJ⟩
  · have hz1 : τ.2.1.length = 399 := by rw [e2]; exact hz
    refine sl_help (y := yL_code) (cl := cL_code) (idx := 37) (mc := 0) (ms := 0) (as := [.ref 0, .int (xs (6 * k + 1)), .int (xs (6 * k + 2)), .ref 398]) (σ' := mPw σ 398 0 a.toInt64) (x := 0) (st := []) S C.2.1 C.2.2.1 (fun _ h => h) (Nat.le_of_ble_eq_true rfl) (Nat.le_of_ble_eq_true rfl) (fun ad sz => h_code_ok hI0.1 hI0.2.2 (by omega) m1 rfl) lh1_code lh2_code lh3_code lh4_code ⟨by decide, by decide, by decide +kernel⟩ rfl (by decide +kernel) ⟨Nat.le_refl _, Nat.le_refl _, by show σ.2.1.length ≤ 1000000; omega⟩ mOut_self (Nat.le_of_ble_eq_true rfl) (by show n0 + 0 ≤ 601024; omega) (by show s0 + 0 ≤ 7293034; omega) ?_
    refine sl_4 (i := 5) (len := 2) S (by decide +kernel) (Nat.le_of_ble_eq_true rfl) rfl ?_
    refine sl_2 (i := 2) (len := 1) S (by decide +kernel) rfl ?_
    refine lc_arg (k := k) C 1 rfl rfl hk (by decide) rfl hz (by decide +kernel) ?_
    refine lc_arg (k := k) C 2 rfl rfl hk (by decide) rfl hz (by decide +kernel) ?_
    refine lc_virt (o := 371) (as := [.int (xs (6 * k + 1)), .int (xs (6 * k + 2))]) (st := []) C (by decide) m2 (by decide +kernel) lk10_code rfl (by decide) rfl (Nat.le_of_ble_eq_true rfl) hI0.2.1 e1 e2 hz (by omega) (by omega) ?_
    refine sl_4 (i := 6) (len := 2) S (by decide +kernel) (Nat.le_of_ble_eq_true rfl) rfl ?_
    refine sl_2 (i := 2) (len := 1) S (by decide +kernel) rfl ?_
    refine lc_virt (o := 371) (as := []) (st := []) C (by decide) m3 (by decide +kernel) lk10_thrown rfl (by decide) rfl (Nat.le_of_ble_eq_true rfl) (by rw [e2]; exact hI0.2.1) rfl rfl hz1 (by omega) (by omega) ?_
    refine sl_1 (i := 5) (x := 0) (len := 2) S (by decide +kernel) rfl ?_
    refine sl_18 (b := 0) (tgt := 319) (len := 3) S (by decide +kernel) (fun _ => ?_) (fun h => absurd rfl h)
    refine sl_1 (i := 5) (x := 0) (len := 2) S (by decide +kernel) rfl ?_
    refine sl_19 (b := 1) (tgt := 336) (len := 3) S (by decide +kernel) (fun h => absurd rfl h) (fun _ => ?_)
    refine sl_2 (i := 3) (len := 1) S (by decide +kernel) rfl ?_
    refine sl_0 (v := 0) (len := 1) S (by decide +kernel) ?_
    refine sl_26 (t := 3) (o := 398) (kd := 23) (n := 1) (len := 1) S C.2.1.1 (by decide +kernel) (by rw [e2]; exact hI0.2.2) rfl (lt_in 0 1 rfl rfl) ?_
    rw [show mAv τ 398 ((0 : Int32)).toNatClampNeg 3 = Value.long a.toInt64 from congrArg Value.long e3]
    refine sl_1 (i := 6) (x := a) (len := 2) S (by decide +kernel) rfl ?_
    refine sl_13 (len := 1) S (by decide +kernel) ?_
    refine sl_12 (len := 1) S (by decide +kernel) ?_
    refine sl_19 (b := 0) (tgt := 336) (len := 3) S (by decide +kernel) (fun _ => ?_) (fun h => absurd (cmp_0.mpr rfl) h)
    refine sl_20 (tgt := 1172) (len := 3) S (by decide +kernel) ?_
    exact sl_weak (L' := lL k) rfl (lw_L1 0 a k) (sl_wide (Nat.le_succ _) (Nat.le_add_right _ 6) (kk τ hJ))
  · have hz1 : τ.2.1.length = 399 := by rw [e2]; exact hz
    refine sl_help (y := yL_code) (cl := cL_code) (idx := 37) (mc := 1) (ms := 6) (as := [.ref 0, .int (xs (6 * k + 1)), .int (xs (6 * k + 2)), .ref 398]) (σ' := σ) (x := 1) (st := []) S C.2.1 C.2.2.1 (fun _ h => h) (Nat.le_of_ble_eq_true rfl) (Nat.le_of_ble_eq_true rfl) (fun ad sz => h_code_no hI0.1 (fun ad sz => hX l D ta ad sz C.2.2.2.2.2.2.1)) lh1_code lh2_code lh3_code lh4_code ⟨by decide, by decide, by decide +kernel⟩ rfl (by decide +kernel) ⟨Nat.le_refl _, Nat.le_refl _, by omega⟩ mOut_self (Nat.le_of_ble_eq_true rfl) hn hs ?_
    refine sl_4 (i := 5) (len := 2) S (by decide +kernel) (Nat.le_of_ble_eq_true rfl) rfl ?_
    refine sl_2 (i := 2) (len := 1) S (by decide +kernel) rfl ?_
    refine lc_arg (k := k) C 1 rfl rfl hk (by decide) rfl hz (by decide +kernel) ?_
    refine lc_arg (k := k) C 2 rfl rfl hk (by decide) rfl hz (by decide +kernel) ?_
    refine lc_virt (o := 371) (as := [.int (xs (6 * k + 1)), .int (xs (6 * k + 2))]) (st := []) C (by decide) m2 (by decide +kernel) lk10_code rfl (by decide) rfl (Nat.le_of_ble_eq_true rfl) hI0.2.1 e1 e2 hz hn hs ?_
    refine sl_4 (i := 6) (len := 2) S (by decide +kernel) (Nat.le_of_ble_eq_true rfl) rfl ?_
    refine sl_2 (i := 2) (len := 1) S (by decide +kernel) rfl ?_
    refine lc_virt (o := 371) (as := []) (st := []) C (by decide) m3 (by decide +kernel) lk10_thrown rfl (by decide) rfl (Nat.le_of_ble_eq_true rfl) (by rw [e2]; exact hI0.2.1) rfl rfl hz1 hn hs ?_
    refine sl_1 (i := 5) (x := 1) (len := 2) S (by decide +kernel) rfl ?_
    refine sl_18 (b := 0) (tgt := 319) (len := 3) S (by decide +kernel) (fun _ => ?_) (fun h => absurd rfl h)
    refine sl_1 (i := 5) (x := 1) (len := 2) S (by decide +kernel) rfl ?_
    refine sl_19 (b := 1) (tgt := 336) (len := 3) S (by decide +kernel) (fun _ => ?_) (fun h => absurd (show ¬ ((1 : Int32) = 0) by decide) h)
    refine sl_20 (tgt := 1172) (len := 3) S (by decide +kernel) ?_
    exact sl_weak (L' := lL k) rfl (lw_L1 1 a k) (kk τ hJ)
theorem lh1_word : Cond.codeWith yL_word cL_word 5 (some .int) hhT ∈ mWT := List.mem_filter.mpr (by decide +kernel)
theorem lh2_word : Cond.static yL_word ∈ mWT := List.mem_filter.mpr (by decide +kernel)
theorem lh3_word : Cond.initialized yL_word.cls ∈ mWT := List.mem_filter.mpr (by decide +kernel)
theorem lh4_word : Cond.methodLink RL 85 yL_word ∈ mWT := List.mem_filter.mpr (by decide +kernel)
theorem lk10_word : Cond.methodLink RL 87 (mt 253).2.1 ∈ mWT := List.mem_filter.mpr (by decide +kernel)
set_option maxHeartbeats 4000000 in
theorem case_word (C : lC p l s m meth c D ta ad0 b N xs) (hk : 6 * k + 6 ≤ N) (hI : JInv σ T) (hT : T + 2000 < 2 ^ 30) (hn : n0 + 1 ≤ 601024) (hs : s0 + 6 ≤ 7293034) (kk : ∀ τ, JInv τ (T + 1800) → lW p l e s m below meth c D ta ad0 b (n0 + 1) (s0 + 6) 1172 (lL k) [] τ) : lW p l e s m below meth c D ta ad0 b n0 s0 636 (lL k) [] σ := by
  have hz := jI_len hI
  have hI0 := jI_0 hI
  obtain ⟨pg, sp, hS, hV⟩ := hI
  have S := C.1
  refine sl_2 (i := 1) (len := 1) S (by decide +kernel) rfl ?_
  refine lc_arg (k := k) C 1 rfl rfl hk (by decide) rfl hz (by decide +kernel) ?_
  refine lc_arg (k := k) C 2 rfl rfl hk (by decide) rfl hz (by decide +kernel) ?_
  refine sl_2 (i := 3) (len := 1) S (by decide +kernel) rfl ?_
  rcases P_word hS hV (xs (6 * k + 1)) (xs (6 * k + 2)) with ⟨a, τ, m1, m2, m3, e1, e2, e3, hJ⟩ | ⟨hX, a, τ, m2, m3, e1, e2, hJ⟩
  · have hz1 : τ.2.1.length = 399 := by rw [e2]; exact hz
    refine sl_help (y := yL_word) (cl := cL_word) (idx := 85) (mc := 0) (ms := 0) (as := [.ref 0, .int (xs (6 * k + 1)), .int (xs (6 * k + 2)), .ref 398]) (σ' := mPw σ 398 0 a.toInt64) (x := 0) (st := []) S C.2.1 C.2.2.1 (fun _ h => h) (Nat.le_of_ble_eq_true rfl) (Nat.le_of_ble_eq_true rfl) (fun ad sz => h_word_ok hI0.1 hI0.2.2 (by omega) m1 rfl) lh1_word lh2_word lh3_word lh4_word ⟨by decide, by decide, by decide +kernel⟩ rfl (by decide +kernel) ⟨Nat.le_refl _, Nat.le_refl _, by show σ.2.1.length ≤ 1000000; omega⟩ mOut_self (Nat.le_of_ble_eq_true rfl) (by show n0 + 0 ≤ 601024; omega) (by show s0 + 0 ≤ 7293034; omega) ?_
    refine sl_4 (i := 5) (len := 2) S (by decide +kernel) (Nat.le_of_ble_eq_true rfl) rfl ?_
    refine sl_2 (i := 2) (len := 1) S (by decide +kernel) rfl ?_
    refine lc_arg (k := k) C 1 rfl rfl hk (by decide) rfl hz (by decide +kernel) ?_
    refine lc_arg (k := k) C 2 rfl rfl hk (by decide) rfl hz (by decide +kernel) ?_
    refine lc_virt (o := 371) (as := [.int (xs (6 * k + 1)), .int (xs (6 * k + 2))]) (st := []) C (by decide) m2 (by decide +kernel) lk10_word rfl (by decide) rfl (Nat.le_of_ble_eq_true rfl) hI0.2.1 e1 e2 hz (by omega) (by omega) ?_
    refine sl_4 (i := 6) (len := 2) S (by decide +kernel) (Nat.le_of_ble_eq_true rfl) rfl ?_
    refine sl_2 (i := 2) (len := 1) S (by decide +kernel) rfl ?_
    refine lc_virt (o := 371) (as := []) (st := []) C (by decide) m3 (by decide +kernel) lk10_thrown rfl (by decide) rfl (Nat.le_of_ble_eq_true rfl) (by rw [e2]; exact hI0.2.1) rfl rfl hz1 (by omega) (by omega) ?_
    refine sl_1 (i := 5) (x := 0) (len := 2) S (by decide +kernel) rfl ?_
    refine sl_18 (b := 0) (tgt := 684) (len := 3) S (by decide +kernel) (fun _ => ?_) (fun h => absurd rfl h)
    refine sl_1 (i := 5) (x := 0) (len := 2) S (by decide +kernel) rfl ?_
    refine sl_19 (b := 1) (tgt := 701) (len := 3) S (by decide +kernel) (fun h => absurd rfl h) (fun _ => ?_)
    refine sl_2 (i := 3) (len := 1) S (by decide +kernel) rfl ?_
    refine sl_0 (v := 0) (len := 1) S (by decide +kernel) ?_
    refine sl_26 (t := 3) (o := 398) (kd := 23) (n := 1) (len := 1) S C.2.1.1 (by decide +kernel) (by rw [e2]; exact hI0.2.2) rfl (lt_in 0 1 rfl rfl) ?_
    rw [show mAv τ 398 ((0 : Int32)).toNatClampNeg 3 = Value.long a.toInt64 from congrArg Value.long e3]
    refine sl_1 (i := 6) (x := a) (len := 2) S (by decide +kernel) rfl ?_
    refine sl_13 (len := 1) S (by decide +kernel) ?_
    refine sl_12 (len := 1) S (by decide +kernel) ?_
    refine sl_19 (b := 0) (tgt := 701) (len := 3) S (by decide +kernel) (fun _ => ?_) (fun h => absurd (cmp_0.mpr rfl) h)
    refine sl_20 (tgt := 1172) (len := 3) S (by decide +kernel) ?_
    exact sl_weak (L' := lL k) rfl (lw_L1 0 a k) (sl_wide (Nat.le_succ _) (Nat.le_add_right _ 6) (kk τ hJ))
  · have hz1 : τ.2.1.length = 399 := by rw [e2]; exact hz
    refine sl_help (y := yL_word) (cl := cL_word) (idx := 85) (mc := 1) (ms := 6) (as := [.ref 0, .int (xs (6 * k + 1)), .int (xs (6 * k + 2)), .ref 398]) (σ' := σ) (x := 1) (st := []) S C.2.1 C.2.2.1 (fun _ h => h) (Nat.le_of_ble_eq_true rfl) (Nat.le_of_ble_eq_true rfl) (fun ad sz => h_word_no hI0.1 (fun ad sz => hX l D ta ad sz C.2.2.2.2.2.2.1)) lh1_word lh2_word lh3_word lh4_word ⟨by decide, by decide, by decide +kernel⟩ rfl (by decide +kernel) ⟨Nat.le_refl _, Nat.le_refl _, by omega⟩ mOut_self (Nat.le_of_ble_eq_true rfl) hn hs ?_
    refine sl_4 (i := 5) (len := 2) S (by decide +kernel) (Nat.le_of_ble_eq_true rfl) rfl ?_
    refine sl_2 (i := 2) (len := 1) S (by decide +kernel) rfl ?_
    refine lc_arg (k := k) C 1 rfl rfl hk (by decide) rfl hz (by decide +kernel) ?_
    refine lc_arg (k := k) C 2 rfl rfl hk (by decide) rfl hz (by decide +kernel) ?_
    refine lc_virt (o := 371) (as := [.int (xs (6 * k + 1)), .int (xs (6 * k + 2))]) (st := []) C (by decide) m2 (by decide +kernel) lk10_word rfl (by decide) rfl (Nat.le_of_ble_eq_true rfl) hI0.2.1 e1 e2 hz hn hs ?_
    refine sl_4 (i := 6) (len := 2) S (by decide +kernel) (Nat.le_of_ble_eq_true rfl) rfl ?_
    refine sl_2 (i := 2) (len := 1) S (by decide +kernel) rfl ?_
    refine lc_virt (o := 371) (as := []) (st := []) C (by decide) m3 (by decide +kernel) lk10_thrown rfl (by decide) rfl (Nat.le_of_ble_eq_true rfl) (by rw [e2]; exact hI0.2.1) rfl rfl hz1 hn hs ?_
    refine sl_1 (i := 5) (x := 1) (len := 2) S (by decide +kernel) rfl ?_
    refine sl_18 (b := 0) (tgt := 684) (len := 3) S (by decide +kernel) (fun _ => ?_) (fun h => absurd rfl h)
    refine sl_1 (i := 5) (x := 1) (len := 2) S (by decide +kernel) rfl ?_
    refine sl_19 (b := 1) (tgt := 701) (len := 3) S (by decide +kernel) (fun _ => ?_) (fun h => absurd (show ¬ ((1 : Int32) = 0) by decide) h)
    refine sl_20 (tgt := 1172) (len := 3) S (by decide +kernel) ?_
    exact sl_weak (L' := lL k) rfl (lw_L1 1 a k) (kk τ hJ)
end LCS
