/-! THE LAW'S TWO HELPERS: they ask code, word, and tell a refusal by 1 (GENERATED, wip/gen/p/99p.py) -/
def hhT : List (Nat × Nat × Nat × Nat) := [(0, 10, 13, 13)]
def mLW (y : MethodName) (cc : ByteArray) : List Cond := .codeWith y cc 5 (some .int) hhT :: mWT
theorem l_ofWH {l : Launch} {y : MethodName} {ws ws' : List Cond} {rm : Room} {Pc : Array Value → State → Prop} {Qc : Array Value → State → Outcome → State → Prop} {mc ms : Nat} {free : Addr → Prop} {cc : ByteArray} {maxL : Nat} {ret : Option FieldType} {hh : List (Nat × Nat × Nat × Nat)}
    (hy : plainName y.cls = true) (hw : ws = Cond.codeWith y cc maxL ret hh :: ws')
    (body : ∀ p e s m args below meth c s₁, BodyLoose p l y (headSpec ws rm) cc maxL ret e s m args below meth c s₁ → c.maxLocals = maxL → Pc args s →
      W p l e (headSpec ws rm).room s m args below meth c s.heap [] 0 0 (MQ below Qc args s mc ms free) (entryFrame m args maxL)) : Met l y ws rm Pc Qc mc ms free := by
  refine MetFree.of_bodyS (code := cc) (maxLocals := maxL) (ret := ret) hy ?_ ?_
  · intro args s m h hn
    obtain ⟨m9, meth, c, hn9, h1, h2, h3, h4, -, h5, h6, -⟩ := Cond.codeWith_spec (atoms_spec (ws := ws) h _ (by rw [hw]; exact List.mem_cons_self))
    cases hn.symm.trans hn9
    exact ⟨meth, c, h1, h2, h3, h4, h5, h6⟩
  · intro p e s m args below meth c s₁ B hml hP _
    have hh0 : s₁.heap = s.heap := by rw [B.state]; rfl
    obtain ⟨t, a1, o, b1, b2, b3⟩ := body p e s m args below meth c s₁ B hml hP s₁ hh0 (Stand.of_body B)
    exact ⟨t, o, a1, b1, b2, ⟨b3.1, b3.2⟩⟩
/-- a call of an object's method, any owner -/
theorem sg_virt {p : Program} {l : Launch} {e : Env} {R : Room} {s : State} {m : MethodId} {args : Array Value} {below : List Frame} {meth : Method} {c : Code} {cc : ByteArray} {D : va_G} {ta : Nat → ClassId} {A : Nat → Prop} {ad0 : Nat → Nat} {n0 s0 nL : Nat} {Q : State → Prop} {pc j : Nat} {L : mL} {st : List Value} {σ : mMH} {own : String} (S : CallFix p m c cc nL s args (mWS j) own) (hKs : mKs D ta ad0 A s) (hA : ∀ q, s.heap.size ≤ q → A q) {d : Nat} (hRf : d + 1 ≤ R.frames) (hRl : 30 * d + 30 ≤ R.locals) {j' na idx o : Nat} {as : List Value} {r' : Option Int32} {σ' : mMH} (hj : j' < 271) (hm : mMok j' na) (hM : mCall d j' (.ref o :: as) σ r' σ') (g1 : mDc cc pc (.invokevirtual idx) 3 = true) (g2 : Cond.methodLink own idx (mt j').2.1 ∈ mWT) (g3 : (mt j').2.2.2.2.2.1 = 0) (g4 : mCi j' < 11) (hlen : as.length = na) (hsz : mSz st ≤ 8) (ho : σ.2.1[o]? = some (mCi j', 0)) (e1 : σ'.1 = σ.1) (e2 : σ'.2.1 = σ.2.1) (hz : σ.2.1.length ≤ 1000000) (hRc : σ.2.1.length ≤ R.cells + n0) (hRs : σ.1 ≤ R.slots + s0) (kk : mG p l e R s m args below meth c D ta A ad0 n0 s0 nL Q (pc + 3) L ((r'.map Value.int).toList ++ st) σ') : mG p l e R s m args below meth c D ta A ad0 n0 s0 nL Q pc L ((.ref o :: as).reverse ++ st) σ := by
  have hR : ∀ mc ms, (mRm d mc ms).frames + 1 ≤ R.frames ∧ 8 + ((mt j').2.2.2.1 + 11) + (mRm d mc ms).locals ≤ R.locals := fun mc ms => ⟨hRf, by have := hm.2.2.2.1; show 8 + ((mt j').2.2.2.1 + 11) + 30 * d ≤ R.locals; omega⟩
  have hM1 := mSound (l := l) hj hM
  have c0 : σ'.2.1.length - σ.2.1.length = 0 := by rw [e2, Nat.sub_self]
  have s00 : σ'.1 - σ.1 = 0 := by rw [e1, Nat.sub_self]
  refine sd_call (as := .ref o :: as) S hA ⟨by rw [e1]; exact Nat.le_refl _, by rw [e2]; exact Nat.le_refl _, by rw [e2]; exact hz⟩ (by rw [e2]; exact mOut_self) ?_ kk
  intro ad H locs ls cells slots b1 b2 b3 a2 a3 a4 a5 a8
  have hroom := lv_room (m := m) (pc := pc) (ls := ls) (rest := ((.ref o :: as).reverse ++ st).map (mCv ad)) (st := st.map (mCv ad)) (by rw [mSz_cv]; exact hsz)
  have g6 := hm.2.2.2.2.2.1
  rw [g3] at g6
  obtain ⟨r, hr, -⟩ := mC_ok (mCi j') g4
  have hcls : r.1 = (mt j').2.1.cls := (mOwn_CL g4 hr).trans hm.2.2.2.2.2.2
  exact va_runV (C := (mt j').2.1.cls) (As := as.map (mCv ad)) (b := ad o) S (hM1 D ta ad H.size) ⟨mCB S hm g2 rfl rfl (hR _ _), S.2.2.2.2 _ (List.mem_cons_of_mem _ g6.1), S.2.2.2.2 _ (List.mem_cons_of_mem _ g6.2)⟩ ⟨mPc_blind, hcls ▸ va_recv hKs.1 a4 hr (by rw [mWs_get ho, mEnc_obj g4]), fun U hU hW => mPc_at (as := .ref o :: as) hKs hU hW a4 a5 b2 b3 b1⟩ rfl (by simpa using hlen) a8.1 (by simp [List.map_reverse, mCv]) hroom (mDc_ok g1) ⟨by omega, by omega⟩
section HLP
variable {l : Launch} {D : va_G} {ta : Nat → ClassId} {ad : Nat → Nat} {sz : Nat} {σ : mMH}
/-- a helper's body, from its entry -/
theorem h_met {y : MethodName} {cc : ByteArray} {j : Nat} {as : List Value} {Qc : Array Value → State → Outcome → State → Prop} {mc ms : Nat} (hj : j < 271) (hy : y.cls = RL) (hc1 : ∀ v ∈ as, v.category = 1) (hlen : as.length ≤ 5) (body : ∀ (p : Program) (e : Env) (R : Room) (s : State) (m : MethodId) (args : Array Value) (below : List Frame) (meth : Method) (c : Code), R.frames = 10 → R.locals = 300 → R.cells = mc → R.slots = ms → CallFix p m c cc 5 s args (mWS j) RL → mKs D ta ad (va_A (mWs ta ad σ) sz) s → mZs (va_A (mWs ta ad σ) sz) s → (∀ q, s.heap.size ≤ q → va_A (mWs ta ad σ) sz q) → c.exceptionTable.toList = tableOf hhT → meth.sig.returnType = some .int → meth.locks = false → mG p l e R s m args below meth c D ta (va_A (mWs ta ad σ) sz) ad σ.2.1.length σ.1 5 (MQ below Qc args s mc ms (va_A (mWs ta ad σ) sz)) 0 (mArgs as 5) [] σ) : Met l y (mLW y cc) (mRm 10 mc ms) (mPx D ta ad sz as σ) Qc mc ms (va_A (mWs ta ad σ) sz) := by
  refine l_ofWH (cc := cc) (maxL := 5) (ret := some .int) (hh := hhT) (by rw [hy]; decide +kernel) rfl ?_
  intro p e s m args below meth c s₁ B hml hv
  obtain ⟨⟨rfl, hsz, hP, hKs, hD0⟩, hZ⟩ := hv
  have hts := atoms_spec (ws := mLW y cc) B.pre
  have hcj := (mAll_ok j hj).1.1
  have S : CallFix p m c cc 5 s (as.map (mCv ad)).toArray (mWS j) RL := ⟨B.exec, B.bytes, hml, by rw [← hy]; exact findClass_of_methodNamed B.named, fun w hw => by
    rcases List.mem_cons.mp hw with rfl | hw
    · exact hts _ (List.mem_cons_of_mem _ hcj)
    · exact hts _ (List.mem_cons_of_mem _ hw)⟩
  have hA : ∀ q, s.heap.size ≤ q → va_A (mWs ta ad σ) sz q := fun q h => Or.inr (by rw [← hsz]; exact h)
  have main := body p e (headSpec (mLW y cc) (mRm 10 mc ms)).room s m (as.map (mCv ad)).toArray below meth c rfl rfl rfl rfl S hKs hZ hA (vx_table (x := y) B (hts _ List.mem_cons_self)) B.returns B.notSynchronized
  rw [lg_entry_eq]
  have he := lv_entry (as.map (mCv ad)) (n := 5) (by rw [mArg_sl as hc1]; exact hlen)
  refine main ad s.heap [] _ 0 0 (fun _ _ => rfl) (Nat.zero_add _) (Nat.zero_add _) hP hD0.self va_S.rf ?_ (lv_has_of he (fun q hq => ?_))
  · unfold mArgs
    rw [List.length_append, List.length_map, List.length_replicate]
    omega
  · obtain ⟨v, h1, h2⟩ := mLp_mem.mp hq
    have h3 := mArg_in (ad := ad) as 0 q.1 v hc1 (mArgs_get h1)
    rw [Nat.zero_add, ← h2] at h3
    exact h3
theorem lk_code : Cond.methodLink RL 7 (mt 128).2.1 ∈ mWT := List.mem_filter.mpr (by decide +kernel)
set_option maxHeartbeats 2000000 in
/-- it answers -/
theorem h_code_ok {x y a : Int32} {τ : mMH} (hM0 : σ.2.1[0]? = some (9, 0)) (h3 : σ.2.1[398]? = some (23, 1)) (hz : σ.2.1.length ≤ 1000000) (h : mCall 9 128 [.ref 0, .int x, .int y] σ (some a) τ) (e : τ = σ) : Met l yL_code (mLW yL_code cL_code) (mRm 10 0 0) (mPx D ta ad sz [.ref 0, .int x, .int y, .ref 398] σ) (mQc D ta ad sz σ (some 0) (mPw σ 398 0 a.toInt64)) 0 0 (va_A (mWs ta ad σ) sz) := by
  subst e
  refine h_met (j := 128) (by decide) rfl (by simp [Value.category]) (Nat.le_of_ble_eq_true rfl) ?_
  intro p e R s m args below meth c r1 r2 r3 r4 S hKs hZ hA ht hret hlocks
  refine sd_2 (i := 3) (len := 1) S (by decide +kernel) rfl ?_
  refine sd_0 (v := 0) (len := 1) S (by decide +kernel) ?_
  refine sd_2 (i := 0) (len := 1) S (by decide +kernel) rfl ?_
  refine sd_1 (i := 1) (len := 1) S (by decide +kernel) rfl ?_
  refine sd_1 (i := 2) (len := 1) S (by decide +kernel) rfl ?_
  refine sg_virt (d := 9) (o := 0) (as := [.int x, .int y]) S hKs hA (by omega) (by omega) (by decide) (mAll_ok 128 (by decide)).1 h (by decide +kernel) lk_code rfl (by decide) rfl (Nat.le_of_ble_eq_true rfl) hM0 rfl rfl hz (by omega) (by omega) ?_
  refine sd_13 (len := 1) S (by decide +kernel) ?_
  refine sd_27l (len := 1) S hKs.1 (by decide +kernel) h3 (lt_in 0 1 rfl rfl) ?_
  refine sd_20 (tgt := 17) (len := 3) S (by decide +kernel) ?_
  refine sd_0 (v := 0) (len := 1) S (by decide +kernel) ?_
  refine sd_30 (len := 1) S hret hlocks (by decide +kernel) ⟨.int, rfl, rfl⟩ rfl rfl rfl ?_
  rw [show (mPw τ 398 ((0 : Int32)).toNatClampNeg a.toInt64).2.1.length = τ.2.1.length from rfl, show (mPw τ 398 ((0 : Int32)).toNatClampNeg a.toInt64).1 = τ.1 from rfl, Nat.sub_self, Nat.sub_self]
  rfl
set_option maxHeartbeats 2000000 in
/-- it tells that it was refused -/
theorem h_code_no {x y : Int32} (hM0 : σ.2.1[0]? = some (9, 0)) (hX : ∀ (ad : Nat → Nat) (sz : Nat), vx_Met l (mt 128).2.1 (mWS 128) (mRm 9 1 6) (mPx D ta ad sz [.ref 0, .int x, .int y] σ) mQn (mXT D ta ad sz σ) 1 6 (va_A (mWs ta ad σ) sz)) : Met l yL_code (mLW yL_code cL_code) (mRm 10 1 6) (mPx D ta ad sz [.ref 0, .int x, .int y, .ref 398] σ) (mQc D ta ad sz σ (some 1) σ) 1 6 (va_A (mWs ta ad σ) sz) := by
  refine h_met (j := 128) (by decide) rfl (by simp [Value.category]) (Nat.le_of_ble_eq_true rfl) ?_
  intro p e R s m args below meth c r1 r2 r3 r4 S hKs hZ hA ht hret hlocks
  refine sd_2 (i := 3) (len := 1) S (by decide +kernel) rfl ?_
  refine sd_0 (v := 0) (len := 1) S (by decide +kernel) ?_
  refine sd_2 (i := 0) (len := 1) S (by decide +kernel) rfl ?_
  refine sd_1 (i := 1) (len := 1) S (by decide +kernel) rfl ?_
  refine sd_1 (i := 2) (len := 1) S (by decide +kernel) rfl ?_
  intro ad' H locs ls cells slots a1 a2 a3 a4 a5 a6 a7 a8
  have e : ad' = ad := funext fun o => a1 o (by omega)
  subst e
  have c0 : cells = 0 := by omega
  have s0 : slots = 0 := by omega
  subst c0; subst s0
  have hm := (mAll_ok 128 (by decide)).1
  have hsub := mA_sub hA a5 a6
  have g6 := hm.2.2.2.2.2.1
  obtain ⟨r, hr, -⟩ := mC_ok (mCi 128) (by decide)
  have hcls : r.1 = (mt 128).2.1.cls := (mOwn_CL (by decide) hr).trans hm.2.2.2.2.2.2
  refine vx_calli (AX := va_A (mWs ta ad' σ) H.size) (vx_runV (C := (mt 128).2.1.cls) (As := [.int x, .int y]) (b := ad' 0) (rest := [.int 0, .ref (ad' 398)]) S (hX ad' H.size) ⟨mCB S hm lk_code rfl rfl ⟨by show 9 + 1 ≤ R.frames; omega, by show 8 + (3 + 11) + 30 * 9 ≤ R.locals; omega⟩, S.2.2.2.2 _ (List.mem_cons_of_mem _ g6.1), S.2.2.2.2 _ (List.mem_cons_of_mem _ g6.2)⟩ ⟨mPx_blind, hcls ▸ va_recv hKs.1 a4 hr (by rw [mWs_get hM0, mEnc_obj (by decide)]; rfl), fun U hU hW => ⟨mPc_at (as := [.ref 0, .int x, .int y]) hKs hU hW a4 a5 a6 hsub (fun _ _ => rfl), mZs_to hZ hW (by rw [hU]; exact a6) hsub⟩⟩ rfl rfl a8.1 rfl (Nat.le_of_ble_eq_true rfl) (show decode cL_code 5 = .ok (.invokevirtual 7, 3) by decide +kernel) ⟨by omega, by omega⟩) a6 (fun q _ h => h.elim) (fun q h => hsub q h) (fun q _ h => hsub q h) ?_ (fun r u t H1 locs1 _ _ hp => hp.elim)
  intro E ce q9 u t H1 locs1 ht1 hvm _ hB hsz1 hsame hS1 hcell hcv hcl
  obtain ⟨rfl, hP1⟩ := hB
  rw [ht1] at hP1
  refine vx_catch (own := RL) (name := nseN) S.2.2.2.1 [] ⟨0, 10, 13, 13⟩ [] (by rw [ht]; rfl) (fun z hz => absurd hz List.not_mem_nil) (by decide) (by decide) (S.2.2.2.2 _ (List.mem_cons_of_mem _ (nse_at (by simp)))) (va_tabs rfl rfl (hZ.2 _ (by simp [nseD]))) hcell hcv hcl ?_
  refine lv_astore (i := 4) S.1 S.2.1 (by decide +kernel) a8 (by decide) rfl (fun ls' h8 => ?_)
  refine lv_iconst S.1 S.2.1 (n := 1) (v := 1) (by decide +kernel) (by decide) ?_
  exact W.iret S.1 S.2.1 hret (fun t ht hW => ⟨⟨1, ad', rfl, ⟨rfl, fun _ _ => rfl⟩, by rw [ht]; exact hP1, a5⟩, hS1.F ht⟩) hS1.2.2 (by decide +kernel) hlocks
theorem lk_word : Cond.methodLink RL 15 (mt 138).2.1 ∈ mWT := List.mem_filter.mpr (by decide +kernel)
set_option maxHeartbeats 2000000 in
/-- it answers -/
theorem h_word_ok {x y a : Int32} {τ : mMH} (hM0 : σ.2.1[0]? = some (9, 0)) (h3 : σ.2.1[398]? = some (23, 1)) (hz : σ.2.1.length ≤ 1000000) (h : mCall 9 138 [.ref 0, .int x, .int y] σ (some a) τ) (e : τ = σ) : Met l yL_word (mLW yL_word cL_word) (mRm 10 0 0) (mPx D ta ad sz [.ref 0, .int x, .int y, .ref 398] σ) (mQc D ta ad sz σ (some 0) (mPw σ 398 0 a.toInt64)) 0 0 (va_A (mWs ta ad σ) sz) := by
  subst e
  refine h_met (j := 138) (by decide) rfl (by simp [Value.category]) (Nat.le_of_ble_eq_true rfl) ?_
  intro p e R s m args below meth c r1 r2 r3 r4 S hKs hZ hA ht hret hlocks
  refine sd_2 (i := 3) (len := 1) S (by decide +kernel) rfl ?_
  refine sd_0 (v := 0) (len := 1) S (by decide +kernel) ?_
  refine sd_2 (i := 0) (len := 1) S (by decide +kernel) rfl ?_
  refine sd_1 (i := 1) (len := 1) S (by decide +kernel) rfl ?_
  refine sd_1 (i := 2) (len := 1) S (by decide +kernel) rfl ?_
  refine sg_virt (d := 9) (o := 0) (as := [.int x, .int y]) S hKs hA (by omega) (by omega) (by decide) (mAll_ok 138 (by decide)).1 h (by decide +kernel) lk_word rfl (by decide) rfl (Nat.le_of_ble_eq_true rfl) hM0 rfl rfl hz (by omega) (by omega) ?_
  refine sd_13 (len := 1) S (by decide +kernel) ?_
  refine sd_27l (len := 1) S hKs.1 (by decide +kernel) h3 (lt_in 0 1 rfl rfl) ?_
  refine sd_20 (tgt := 17) (len := 3) S (by decide +kernel) ?_
  refine sd_0 (v := 0) (len := 1) S (by decide +kernel) ?_
  refine sd_30 (len := 1) S hret hlocks (by decide +kernel) ⟨.int, rfl, rfl⟩ rfl rfl rfl ?_
  rw [show (mPw τ 398 ((0 : Int32)).toNatClampNeg a.toInt64).2.1.length = τ.2.1.length from rfl, show (mPw τ 398 ((0 : Int32)).toNatClampNeg a.toInt64).1 = τ.1 from rfl, Nat.sub_self, Nat.sub_self]
  rfl
set_option maxHeartbeats 2000000 in
/-- it tells that it was refused -/
theorem h_word_no {x y : Int32} (hM0 : σ.2.1[0]? = some (9, 0)) (hX : ∀ (ad : Nat → Nat) (sz : Nat), vx_Met l (mt 138).2.1 (mWS 138) (mRm 9 1 6) (mPx D ta ad sz [.ref 0, .int x, .int y] σ) mQn (mXT D ta ad sz σ) 1 6 (va_A (mWs ta ad σ) sz)) : Met l yL_word (mLW yL_word cL_word) (mRm 10 1 6) (mPx D ta ad sz [.ref 0, .int x, .int y, .ref 398] σ) (mQc D ta ad sz σ (some 1) σ) 1 6 (va_A (mWs ta ad σ) sz) := by
  refine h_met (j := 138) (by decide) rfl (by simp [Value.category]) (Nat.le_of_ble_eq_true rfl) ?_
  intro p e R s m args below meth c r1 r2 r3 r4 S hKs hZ hA ht hret hlocks
  refine sd_2 (i := 3) (len := 1) S (by decide +kernel) rfl ?_
  refine sd_0 (v := 0) (len := 1) S (by decide +kernel) ?_
  refine sd_2 (i := 0) (len := 1) S (by decide +kernel) rfl ?_
  refine sd_1 (i := 1) (len := 1) S (by decide +kernel) rfl ?_
  refine sd_1 (i := 2) (len := 1) S (by decide +kernel) rfl ?_
  intro ad' H locs ls cells slots a1 a2 a3 a4 a5 a6 a7 a8
  have e : ad' = ad := funext fun o => a1 o (by omega)
  subst e
  have c0 : cells = 0 := by omega
  have s0 : slots = 0 := by omega
  subst c0; subst s0
  have hm := (mAll_ok 138 (by decide)).1
  have hsub := mA_sub hA a5 a6
  have g6 := hm.2.2.2.2.2.1
  obtain ⟨r, hr, -⟩ := mC_ok (mCi 138) (by decide)
  have hcls : r.1 = (mt 138).2.1.cls := (mOwn_CL (by decide) hr).trans hm.2.2.2.2.2.2
  refine vx_calli (AX := va_A (mWs ta ad' σ) H.size) (vx_runV (C := (mt 138).2.1.cls) (As := [.int x, .int y]) (b := ad' 0) (rest := [.int 0, .ref (ad' 398)]) S (hX ad' H.size) ⟨mCB S hm lk_word rfl rfl ⟨by show 9 + 1 ≤ R.frames; omega, by show 8 + (3 + 11) + 30 * 9 ≤ R.locals; omega⟩, S.2.2.2.2 _ (List.mem_cons_of_mem _ g6.1), S.2.2.2.2 _ (List.mem_cons_of_mem _ g6.2)⟩ ⟨mPx_blind, hcls ▸ va_recv hKs.1 a4 hr (by rw [mWs_get hM0, mEnc_obj (by decide)]; rfl), fun U hU hW => ⟨mPc_at (as := [.ref 0, .int x, .int y]) hKs hU hW a4 a5 a6 hsub (fun _ _ => rfl), mZs_to hZ hW (by rw [hU]; exact a6) hsub⟩⟩ rfl rfl a8.1 rfl (Nat.le_of_ble_eq_true rfl) (show decode cL_word 5 = .ok (.invokevirtual 15, 3) by decide +kernel) ⟨by omega, by omega⟩) a6 (fun q _ h => h.elim) (fun q h => hsub q h) (fun q _ h => hsub q h) ?_ (fun r u t H1 locs1 _ _ hp => hp.elim)
  intro E ce q9 u t H1 locs1 ht1 hvm _ hB hsz1 hsame hS1 hcell hcv hcl
  obtain ⟨rfl, hP1⟩ := hB
  rw [ht1] at hP1
  refine vx_catch (own := RL) (name := nseN) S.2.2.2.1 [] ⟨0, 10, 13, 13⟩ [] (by rw [ht]; rfl) (fun z hz => absurd hz List.not_mem_nil) (by decide) (by decide) (S.2.2.2.2 _ (List.mem_cons_of_mem _ (nse_at (by simp)))) (va_tabs rfl rfl (hZ.2 _ (by simp [nseD]))) hcell hcv hcl ?_
  refine lv_astore (i := 4) S.1 S.2.1 (by decide +kernel) a8 (by decide) rfl (fun ls' h8 => ?_)
  refine lv_iconst S.1 S.2.1 (n := 1) (v := 1) (by decide +kernel) (by decide) ?_
  exact W.iret S.1 S.2.1 hret (fun t ht hW => ⟨⟨1, ad', rfl, ⟨rfl, fun _ _ => rfl⟩, by rw [ht]; exact hP1, a5⟩, hS1.F ht⟩) hS1.2.2 (by decide +kernel) hlocks
end HLP
