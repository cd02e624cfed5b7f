/-! THROWN: code and word of the class, where they refuse (GENERATED, wip/gen/p/99o.py) -/
def nseN : String := "java/util/NoSuchElementException"
def nseU : List String := ["java/lang/RuntimeException", "java/lang/Exception"]
theorem nse_in0 : ∀ w ∈ vx_at0 RX9 90 nseN nseU, w ∈ lw_tbl := by decide +kernel
theorem nse_ot : ∀ w ∈ vx_at0 RX9 90 nseN nseU, vx_ot w = true := by decide +kernel
def nseD : List Cond := [.castable nseN nseN, .declares ⟨"java/lang/RuntimeException", "<init>", "()V"⟩, .declares ⟨"java/lang/Exception", "<init>", "()V"⟩, .declares ⟨"java/lang/Throwable", "<init>", "()V"⟩]
theorem nse_no : ∀ w ∈ (vx_at0 RX9 90 nseN nseU).filter (fun w => !goodWord w), w ∈ nseD := by decide +kernel
theorem nseD_in : ∀ w ∈ nseD, w ∈ lw_tbl ∧ w.onTables = true := by decide +kernel
theorem nseD_warm {s U : State} (hW : s.WarmedH U.vm) (h : ∀ w ∈ nseD, va_Nw w s) : ∀ w ∈ nseD, va_Nw w U := fun w hw => by
  have h9 := h w hw
  simp only [nseD, List.mem_cons, List.not_mem_nil, or_false] at hw
  rcases hw with rfl | rfl | rfl | rfl
  · exact va_Nw.warmC hW h9
  · exact va_Nw.warmD hW h9
  · exact va_Nw.warmD hW h9
  · exact va_Nw.warmD hW h9
theorem nse_in : ∀ w ∈ (vx_at0 RX9 90 nseN nseU).filter goodWord, w ∈ mWT := fun w h => List.mem_filter.mpr ⟨nse_in0 w (List.mem_filter.mp h).1, (List.mem_filter.mp h).2⟩
theorem nse_cl : ∀ w ∈ ([.classLink RX9 88 nseN, .initialized nseN, .classLink RL 13 nseN] : List Cond), w ∈ lw_tbl ∧ goodWord w = true := by decide +kernel
theorem nse_at {w : Cond} (h : w ∈ ([.classLink RX9 88 nseN, .initialized nseN, .classLink RL 13 nseN] : List Cond)) : w ∈ mWT := List.mem_filter.mpr (nse_cl w h)
theorem nse_ca : Cond.castable nseN nseN ∈ lw_tbl := by decide +kernel
/-- the statics that a throw reads -/
def mZs (A : Nat → Prop) (U : State) : Prop := (vx_Zq Bundle.tN "UNASSIGNED_STACK" Bundle.steD A U U.heap ∧ vx_Zq Bundle.tN "SUPPRESSED_SENTINEL" Bundle.listD A U U.heap) ∧ ∀ w ∈ nseD, va_Nw w U
theorem mZs_to {A A1 : Nat → Prop} {s U : State} {locs : List Loc} (h : mZs A s) (hW : s.WarmedH U.vm) (hS : va_S A s.heap U.heap locs) (hsub : ∀ q, A1 q → A q) : mZs A1 U := ⟨⟨((h.1.1.moved hW.alike).kept hS.2.1).narrow hsub, ((h.1.2.moved hW.alike).kept hS.2.1).narrow hsub⟩, nseD_warm hW h.2⟩
def mPx (D : va_G) (ta : Nat → ClassId) (ad : Nat → Nat) (sz : Nat) (as : List Value) (σ : mMH) : Array Value → State → Prop := fun a U => mPc D ta ad sz as σ a U ∧ mZs (va_A (mWs ta ad σ) sz) U
theorem mPx_blind {D : va_G} {ta : Nat → ClassId} {ad : Nat → Nat} {sz : Nat} {as : List Value} {σ : mMH} : FrameBlind (mPx D ta ad sz as σ) := fun a U g mk q => ⟨mPc_blind a U g mk q.1, ⟨q.2.1.1.moved (Vm.Alike.refl U.vm), q.2.1.2.moved (Vm.Alike.refl U.vm)⟩, fun w hw => va_Nw.same (nseD_in w hw).2 (show U.vm = (U.calling g mk a).vm from rfl) (q.2.2 w hw)⟩
/-- nothing is returned -/
def mQn : Array Value → State → Outcome → State → Prop := va_Qi (S := Unit) (fun _ _ => False) (fun _ _ => True) (fun _ => False)
/-- what is thrown, and what stands then -/
def mXT (D : va_G) (ta : Nat → ClassId) (ad : Nat → Nat) (sz : Nat) (σ : mMH) : String → State → State → Prop := vx_X (S := Unit) (fun _ => True) (fun E _ t => E = nseN ∧ va_P D mCL (mWs ta ad σ) t.heap) (va_A (mWs ta ad σ) sz)
section XTHR
variable {l : Launch} {D : va_G} {ta : Nat → ClassId} {ad : Nat → Nat} {sz : Nat} {σ : mMH}
theorem x_throw {p : Program} {e : Env} {R : Room} {s : State} {m : MethodId} {args : Array Value} {below : List Frame} {meth : Method} {c : Code} {cc : ByteArray} {nL pc j : Nat} {L : mL} (S : CallFix p m c cc nL s args (mWS j) RX9) (hl : l.stackTraces = false) (hZ : mZs (va_A (mWs ta ad σ) sz) s) (ht : ∀ x ∈ c.exceptionTable.toList, False) (hlocks : meth.locks = false) (hRf : 5 < R.frames) (hRl : 81 ≤ R.locals) (hRc : 1 ≤ R.cells) (hRs : 6 ≤ R.slots) (d0 : decode cc pc = .ok (.new 88, 3)) (d3 : decode cc (pc + 3) = .ok (.dup, 1)) (d4 : decode cc (pc + 4) = .ok (.invokespecial 90, 3)) (d7 : decode cc (pc + 7) = .ok (.athrow, 1)) : mG p l e R s m args below meth c D ta (va_A (mWs ta ad σ) sz) ad σ.2.1.length σ.1 nL (vx_MQ below mQn (mXT D ta ad sz σ) args s 1 6 (va_A (mWs ta ad σ) sz)) pc L [] σ := by
  intro ad' H locs ls cells slots a1 a2 a3 a4 a5 a6 a7 a8
  have e : ad' = ad := funext fun o => a1 o (by omega)
  subst e
  have c0 : cells = 0 := by omega
  have s0 : slots = 0 := by omega
  subst c0; subst s0
  refine vx_throw0 (own := RX9) (cls := nseN) (names := nseU) (ik := 88) (ic := 90) S.1 S.2.1 hl S.2.2.2.1 (by decide +kernel) (by decide +kernel) (S.2.2.2.2 _ (List.mem_cons_of_mem _ (nse_at (by simp)))) (S.2.2.2.2 _ (List.mem_cons_of_mem _ (nse_at (by simp)))) (vx_hat (fun w hw => S.2.2.2.2 _ (List.mem_cons_of_mem _ (nse_in w hw))) nse_no (fun w hw => va_tabs (nseD_in w hw).2 rfl (hZ.2 w hw))) (fun w hw => ?_) hZ.1.1 hZ.1.2 a6 (a8.1.trans S.2.2.1.symm) d0 d3 d4 d7 (fun x hx => (ht x hx).elim) hRf hRl (by omega) (by omega) hlocks (fun t _ h2 h3 => ?_) a6.2.2 (by omega) (by omega)
  · rcases List.mem_cons.mp hw with rfl | hw
    · unfold vx_ot
      rw [(nse_cl (.classLink RX9 88 nseN) (by simp)).2, Bool.or_true]
    · rcases List.mem_cons.mp hw with rfl | hw
      · unfold vx_ot
        rw [(nse_cl (.initialized nseN) (by simp)).2, Bool.or_true]
      · exact nse_ot w hw
  · refine ⟨(), trivial, ⟨rfl, fun k q hq => ?_⟩, Nat.le_trans a6.1 h2, fun q hq hn => ?_⟩
    · have hlt := (a4 k q hq).lt
      exact va_at.kept (a4 k q hq) (h3 _ hlt)
    · rw [h3 q (Nat.lt_of_lt_of_le hq a6.1)]
      exact a6.2.1 q hq hn
/-- from the entry of a method of the class that throws on this run -/
theorem x_met (hl : l.stackTraces = false) {j na : Nat} {as : List Value} (hm : mMok j na) (hj9 : mOwn (mCi j) = RX9) (hc1 : ∀ v ∈ as, v.category = 1) (hlen : as.length ≤ (mt j).2.2.2.1) (body : ∀ (p : Program) (e : Env) (R : Room) (s : State) (m : MethodId) (args : Array Value) (below : List Frame) (meth : Method) (c : Code), R.frames = 9 → R.locals = 270 → R.cells = 1 → R.slots = 6 → CallFix p m c (mt j).2.2.1 (mt j).2.2.2.1 s args (mWS j) RX9 → mKs D ta ad (va_A (mWs ta ad σ) sz) s → mZs (va_A (mWs ta ad σ) sz) s → (∀ q, s.heap.size ≤ q → va_A (mWs ta ad σ) sz q) → (∀ x ∈ c.exceptionTable.toList, False) → meth.locks = false → mG p l e R s m args below meth c D ta (va_A (mWs ta ad σ) sz) ad σ.2.1.length σ.1 (mt j).2.2.2.1 (vx_MQ below mQn (mXT D ta ad sz σ) args s 1 6 (va_A (mWs ta ad σ) sz)) 0 (mArgs as (mt j).2.2.2.1) [] σ) : vx_Met l (mt j).2.1 (mWS j) (mRm 9 1 6) (mPx D ta ad sz as σ) mQn (mXT D ta ad sz σ) 1 6 (va_A (mWs ta ad σ) sz) := by
  refine vx_ofW (cc := (mt j).2.2.1) (maxL := (mt j).2.2.2.1) (ret := (mt j).2.2.2.2.1) hm.2.2.2.2.1 rfl ?_
  intro p e s m args below meth c s₁ B hml ht hv
  obtain ⟨⟨rfl, hsz, hP, hKs, hD0⟩, hZ⟩ := hv
  have S : CallFix p m c (mt j).2.2.1 (mt j).2.2.2.1 s (as.map (mCv ad)).toArray (mWS j) RX9 := ⟨B.exec, B.bytes, hml, by rw [← hj9, hm.2.2.2.2.2.2]; exact findClass_of_methodNamed B.named, atoms_spec (ws := mWS j) B.pre⟩
  have hA : ∀ q, s.heap.size ≤ q → va_A (mWs ta ad σ) sz q := fun q h => Or.inr (by rw [← hsz]; exact h)
  have main := body p e (headSpec (mWS j) (mRm 9 1 6)).room s m (as.map (mCv ad)).toArray below meth c rfl rfl rfl rfl S hKs hZ hA ht B.notSynchronized
  rw [lg_entry_eq]
  have he := lv_entry (as.map (mCv ad)) (n := (mt j).2.2.2.1) (by rw [mArg_sl as hc1]; exact hlen)
  refine main ad s.heap [] _ 0 0 (fun _ _ => rfl) (Nat.zero_add _) (Nat.zero_add _) hP hD0.self va_S.rf ?_ (lv_has_of he (fun q hq => ?_))
  · unfold mArgs
    rw [List.length_append, List.length_map, List.length_replicate]
    omega
  · obtain ⟨v, h1, h2⟩ := mLp_mem.mp hq
    have h3 := mArg_in (ad := ad) as 0 q.1 v hc1 (mArgs_get h1)
    rw [Nat.zero_add, ← h2] at h3
    exact h3
set_option maxHeartbeats 2000000 in
theorem x_code (hl : l.stackTraces = false) {o pg : Nat} {x y : Int32} (hM : σ.2.1[o]? = some (9, 0)) (hr : σ.2.2.1 o 3 = some pg) (hG : σ.2.1[pg]? = some (4, 0)) (hc : x < 0 ∨ (¬ x < 0 ∧ σ.2.2.2.1 pg 1 ≤ x) ∨ (¬ x < 0 ∧ ¬ σ.2.2.2.1 pg 1 ≤ x ∧ y < 0) ∨ (¬ x < 0 ∧ ¬ σ.2.2.2.1 pg 1 ≤ x ∧ ¬ y < 0 ∧ ¬ y ≤ 1)) : vx_Met l (mt 128).2.1 (mWS 128) (mRm 9 1 6) (mPx D ta ad sz [.ref o, .int x, .int y] σ) mQn (mXT D ta ad sz σ) 1 6 (va_A (mWs ta ad σ) sz) := by
  refine x_met hl (mAll_ok 128 (by decide)).1 (by decide +kernel) (by simp [Value.category]) (Nat.le_of_ble_eq_true rfl) ?_
  intro p e R s m args below meth c r1 r2 r3 r4 S hKs hZ hA ht hlocks
  have fin : ∀ L, mG p l e R s m args below meth c D ta (va_A (mWs ta ad σ) sz) ad σ.2.1.length σ.1 (mt 128).2.2.2.1 (vx_MQ below mQn (mXT D ta ad sz σ) args s 1 6 (va_A (mWs ta ad σ) sz)) 24 L [] σ := fun L => x_throw S hl hZ ht hlocks (by omega) (by omega) (by omega) (by omega) (by decide +kernel) (by decide +kernel) (by decide +kernel) (by decide +kernel)
  refine sd_1 (i := 1) (len := 1) S (by decide +kernel) rfl ?_
  refine sd_19 (b := 2) (tgt := 24) (len := 3) S (by decide +kernel) (fun _ => fin _) (fun n1 => ?_)
  refine sd_1 (i := 1) (len := 1) S (by decide +kernel) rfl ?_
  refine sd_2 (i := 0) (len := 1) S (by decide +kernel) rfl ?_
  refine sd_24 (x := 9) (ci := 9) (k := 3) (t := 4) (ps := [23, 113]) (len := 3) S hKs.1 (by decide +kernel) hM ?_
  rw [show mFv σ o 3 4 = .ref pg by show va_rf (σ.2.2.1 o 3) = _; rw [hr]; rfl]
  refine sd_24 (x := 9) (ci := 4) (k := 1) (t := 0) (ps := [85, 123]) (len := 3) S hKs.1 (by decide +kernel) hG ?_
  refine sd_18 (b := 3) (tgt := 24) (len := 3) S (by decide +kernel) (fun _ => fin _) (fun n2 => ?_)
  refine sd_1 (i := 2) (len := 1) S (by decide +kernel) rfl ?_
  refine sd_19 (b := 2) (tgt := 24) (len := 3) S (by decide +kernel) (fun _ => fin _) (fun n3 => ?_)
  refine sd_1 (i := 2) (len := 1) S (by decide +kernel) rfl ?_
  refine sd_0 (v := 1) (len := 1) S (by decide +kernel) ?_
  refine sd_18 (b := 5) (tgt := 32) (len := 3) S (by decide +kernel) (fun q => ?_) (fun _ => fin _)
  rcases hc with h | ⟨-, h⟩ | ⟨-, -, h⟩ | ⟨-, -, -, h⟩
  · exact absurd h n1
  · exact absurd h n2
  · exact absurd h n3
  · exact absurd q h
set_option maxHeartbeats 2000000 in
theorem x_word (hl : l.stackTraces = false) {o : Nat} {x y : Int32} (hz : σ.2.1.length ≤ 1000000) (hc : FX9_isMachine x = 0 ∨ FX9_isPlace y = 0) : vx_Met l (mt 138).2.1 (mWS 138) (mRm 9 1 6) (mPx D ta ad sz [.ref o, .int x, .int y] σ) mQn (mXT D ta ad sz σ) 1 6 (va_A (mWs ta ad σ) sz) := by
  refine x_met hl (mAll_ok 138 (by decide)).1 (by decide +kernel) (by simp [Value.category]) (Nat.le_of_ble_eq_true rfl) ?_
  intro p e R s m args below meth c r1 r2 r3 r4 S hKs hZ hA ht hlocks
  have fin : ∀ L, mG p l e R s m args below meth c D ta (va_A (mWs ta ad σ) sz) ad σ.2.1.length σ.1 (mt 138).2.2.2.1 (vx_MQ below mQn (mXT D ta ad sz σ) args s 1 6 (va_A (mWs ta ad σ) sz)) 14 L [] σ := fun L => x_throw S hl hZ ht hlocks (by omega) (by omega) (by omega) (by omega) (by decide +kernel) (by decide +kernel) (by decide +kernel) (by decide +kernel)
  obtain ⟨q1, τ1, h1, h2, h3, h4⟩ := tX9_isMachine (d := 7) (B := mBo σ) (v := σ.2.2.2.1) (w := σ.2.2.2.2) (Q := fun q τ => q = some (FX9_isMachine x) ∧ τ = σ) x ⟨rfl, rfl⟩ hz
  obtain ⟨rfl, rfl⟩ := h4
  obtain ⟨q2, τ2, g1, g2, g3, g4⟩ := tX9_isPlace (d := 7) (B := mBo τ1) (v := τ1.2.2.2.1) (w := τ1.2.2.2.2) (Q := fun q τ => q = some (FX9_isPlace y) ∧ τ = τ1) y ⟨rfl, rfl⟩ hz
  obtain ⟨rfl, rfl⟩ := g4
  have le : mLe τ2 τ2 := ⟨Nat.le_refl _, Nat.le_refl _, hz⟩
  refine sd_1 (i := 1) (len := 1) S (by decide +kernel) rfl ?_
  refine sd_29 (x := 9) (d := 8) (as := [.int x]) (j' := 153) (na := 1) (kind := 1) (ci := 9) (ps := [121, 122]) (len := 3) S hKs hA (by omega) (by omega) (by decide +kernel) (mAll_ok 153 (by decide)).1 (mSound (by decide) h1) rfl (Nat.le_of_ble_eq_true rfl) (fun q => by cases q) (fun q => by rcases q with q | q <;> cases q) (by omega) (by omega) le mOut_self ?_
  refine sd_19 (b := 0) (tgt := 14) (len := 3) S (by decide +kernel) (fun _ => fin _) (fun n1 => ?_)
  refine sd_1 (i := 2) (len := 1) S (by decide +kernel) rfl ?_
  refine sd_29 (x := 9) (d := 8) (as := [.int y]) (j' := 154) (na := 1) (kind := 1) (ci := 9) (ps := [125, 123]) (len := 3) S hKs hA (by omega) (by omega) (by decide +kernel) (mAll_ok 154 (by decide)).1 (mSound (by decide) g1) rfl (Nat.le_of_ble_eq_true rfl) (fun q => by cases q) (fun q => by rcases q with q | q <;> cases q) (by omega) (by omega) le mOut_self ?_
  refine sd_19 (b := 1) (tgt := 22) (len := 3) S (by decide +kernel) (fun q => ?_) (fun _ => fin _)
  rcases hc with h | h
  · exact absurd h n1
  · exact absurd h q
end XTHR
