/-! SOUNDNESS: what the step machine does, the JVM does -/
def mRm (d mc ms : Nat) : Room := { frames := d, cells := mc, slots := ms, locals := 30 * d }
def mNW : List Cond := [(Cond.methodLinkNest "MeetingMachines" (32 : Nat) ({ cls := "MeetingMachines$World", name := "<init>", desc := "()V" } : Jvm.MethodName) "MeetingMachines"), (Cond.methodLinkNest "MeetingMachines$World" (9 : Nat) ({ cls := "MeetingMachines$Diary", name := "<init>", desc := "()V" } : Jvm.MethodName) "MeetingMachines"), (Cond.methodLinkNest "MeetingMachines$Machine" (23 : Nat) ({ cls := "MeetingMachines$Timers", name := "<init>", desc := "()V" } : Jvm.MethodName) "MeetingMachines"), (Cond.methodLinkNest "MeetingMachines$Machine" (30 : Nat) ({ cls := "MeetingMachines$Link", name := "<init>", desc := "()V" } : Jvm.MethodName) "MeetingMachines"), (Cond.methodLinkNest "MeetingMachines$History" (17 : Nat) ({ cls := "MeetingMachines$World", name := "<init>", desc := "()V" } : Jvm.MethodName) "MeetingMachines"), (Cond.methodLinkNest "MeetingMachines" (57 : Nat) ({ cls := "MeetingMachines$Ways", name := "<init>", desc := "()V" } : Jvm.MethodName) "MeetingMachines"), (Cond.methodLinkNest "MeetingMachines$Machine" (101 : Nat) ({ cls := "MeetingMachines", name := "isProcess", desc := "(I)Z" } : Jvm.MethodName) "MeetingMachines"), (Cond.methodLinkNest "MeetingMachines$Machine" (186 : Nat) ({ cls := "MeetingMachines", name := "isPlace", desc := "(I)Z" } : Jvm.MethodName) "MeetingMachines"), (Cond.methodLinkNest "MeetingMachines$Machine" (176 : Nat) ({ cls := "MeetingMachines", name := "isW", desc := "(I)Z" } : Jvm.MethodName) "MeetingMachines"), (Cond.methodLinkNest "MeetingMachines$Machine" (221 : Nat) ({ cls := "MeetingMachines", name := "arePlaces", desc := "(II)Z" } : Jvm.MethodName) "MeetingMachines"), (Cond.methodLinkNest "MeetingMachines$Machine" (127 : Nat) ({ cls := "MeetingMachines", name := "isAfter", desc := "(II)Z" } : Jvm.MethodName) "MeetingMachines"), (Cond.methodLinkNest "MeetingMachines$Timers" (30 : Nat) ({ cls := "MeetingMachines", name := "isAfter", desc := "(II)Z" } : Jvm.MethodName) "MeetingMachines")]
def mKs (D : va_G) (ta : Nat → ClassId) (ad : Nat → Nat) (A : Nat → Prop) (U : State) : Prop := va_K D mCL (mTYs ta) U ∧ (∀ w ∈ mNW, va_Nw w U) ∧ va_AO "MeetingMachines$Link" U ∧ va_AO "MeetingMachines$Machine" U ∧ va_AO "MeetingMachines$World" U
def mAgr (ad ad' : Nat → Nat) (a b : Nat) : Prop := ∀ o, o < a ∨ b ≤ o → ad' o = ad o
def mQc (D : va_G) (ta : Nat → ClassId) (ad : Nat → Nat) (sz : Nat) (σ : mMH) (r : Option Int32) (σ' : mMH) : Array Value → State → Outcome → State → Prop := match r with
  | some x => va_Qi (S := Nat → Nat) (fun y ad' => y = x ∧ mAgr ad ad' σ.2.1.length σ'.2.1.length) (fun ad' t => va_P D mCL (mWs ta ad' σ') t.heap ∧ va_D (va_A (mWs ta ad σ) sz) (mWs ta ad' σ')) (va_A (mWs ta ad σ) sz)
  | none => va_Qv (S := Nat → Nat) (fun ad' => mAgr ad ad' σ.2.1.length σ'.2.1.length) (fun ad' t => va_P D mCL (mWs ta ad' σ') t.heap ∧ va_D (va_A (mWs ta ad σ) sz) (mWs ta ad' σ')) (va_A (mWs ta ad σ) sz)
def mPc (D : va_G) (ta : Nat → ClassId) (ad : Nat → Nat) (sz : Nat) (as : List Value) (σ : mMH) : Array Value → State → Prop := va_Pc (as.map (mCv ad)) (fun U => U.heap.size = sz ∧ va_P D mCL (mWs ta ad σ) U.heap ∧ mKs D ta ad (va_A (mWs ta ad σ) sz) U ∧ va_D (fun _ => True) (mWs ta ad σ))
/-- the contract of method j, out of one run of the step machine -/
def mMet (l : Launch) (d j : Nat) (as : List Value) (σ : mMH) (r : Option Int32) (σ' : mMH) : Prop := ∀ (D : va_G) (ta : Nat → ClassId) (ad : Nat → Nat) (sz : Nat), Met l (mt j).2.1 (mWS j) (mRm d (σ'.2.1.length - σ.2.1.length) (σ'.1 - σ.1)) (mPc D ta ad sz as σ) (mQc D ta ad sz σ r σ') (σ'.2.1.length - σ.2.1.length) (σ'.1 - σ.1) (va_A (mWs ta ad σ) sz)
def mLp (ad : Nat → Nat) (L : mL) : List (Nat × Value) := (List.range L.length).filterMap (fun i => match L[i]? with
  | some (some v) => some (i, mCv ad v)
  | _ => none)
theorem mLp_mem {ad : Nat → Nat} {L : mL} {q : Nat × Value} : q ∈ mLp ad L ↔ ∃ v, L[q.1]? = some (some v) ∧ q.2 = mCv ad v := by
  unfold mLp
  rw [List.mem_filterMap]
  constructor
  · rintro ⟨i, hi, h⟩
    split at h
    · rename_i v hv
      cases h
      exact ⟨v, hv, rfl⟩
    · cases h
  · rintro ⟨v, hv, e⟩
    refine ⟨q.1, List.mem_range.mpr (List.getElem?_eq_some_iff.mp hv).1, ?_⟩
    simp only [hv, ← e]
theorem mLp_at {ad : Nat → Nat} {L : mL} {ls : Array Slot} {nL i : Nat} {v : Value} (h : lv_has ls nL (mLp ad L)) (hi : L[i]? = some (some v)) : ls[i]? = some (.val (mCv ad v)) := h.2.2 (i, mCv ad v) (mLp_mem.mpr ⟨v, hi, rfl⟩)
theorem lv_has_of {ls : Array Slot} {nL : Nat} {l1 l2 : List (Nat × Value)} (h : lv_has ls nL l1) (hs : ∀ q ∈ l2, q ∈ l1) : lv_has ls nL l2 := ⟨h.1, h.2.1, fun q hq => h.2.2 q (hs q hq)⟩
theorem mNL_cat {L : mL} {i j : Nat} {v : Value} (h : mNL L i = true) (hj : j + 1 = i) (hv : L[j]? = some (some v)) : v.category = 1 := by
  unfold mNL at h
  rw [show i - 1 = j by omega, hv] at h
  simpa using h
theorem mLp_set1 {ad : Nat → Nat} {L : mL} {i : Nat} {v : Value} (hN : mNL L i = true) (hi : i < L.length) : ∀ q ∈ mLp ad (L.set i (some v)), q ∈ (i, mCv ad v) :: (mLp ad L).filter (fun q => !(q.1 == i) && !(q.1 + 1 == i && q.2.category == 2)) := by
  intro q hq
  obtain ⟨v', hv, e⟩ := mLp_mem.mp hq
  obtain ⟨j, w⟩ := q
  dsimp only at hv e
  by_cases hj : j = i
  · subst hj
    rw [List.getElem?_set_self hi] at hv
    cases hv
    subst e
    exact List.mem_cons_self
  · rw [List.getElem?_set_ne (Ne.symm hj)] at hv
    refine List.mem_cons_of_mem _ (List.mem_filter.mpr ⟨mLp_mem.mpr ⟨v', hv, e⟩, ?_⟩)
    have h2 : ¬ (j + 1 = i ∧ w.category = 2) := by
      rintro ⟨h3, h4⟩
      have h5 := mNL_cat hN h3 hv
      rw [e, mCv_cat, h5] at h4
      cases h4
    simp only [Bool.and_eq_true, Bool.not_eq_true', beq_eq_false_iff_ne, ne_eq, Bool.and_eq_false_iff]
    refine ⟨hj, ?_⟩
    by_cases h3 : j + 1 = i
    · exact Or.inr (fun h4 => h2 ⟨h3, h4⟩)
    · exact Or.inl h3
theorem mLp_set2 {ad : Nat → Nat} {L : mL} {i : Nat} {v : Value} (hN : mNL L i = true) (hi : i + 1 < L.length) : ∀ q ∈ mLp ad ((L.set i (some v)).set (i + 1) none), q ∈ (i, mCv ad v) :: (mLp ad L).filter (fun q => !(q.1 == i) && (!(q.1 == i + 1) && !(q.1 + 1 == i && q.2.category == 2))) := by
  intro q hq
  obtain ⟨v', hv, e⟩ := mLp_mem.mp hq
  obtain ⟨j, w⟩ := q
  dsimp only at hv e
  by_cases hj1 : j = i + 1
  · subst hj1
    rw [List.getElem?_set_self (by simpa using hi)] at hv
    cases hv
  · rw [List.getElem?_set_ne (Ne.symm hj1)] at hv
    by_cases hj : j = i
    · subst hj
      rw [List.getElem?_set_self (by omega)] at hv
      cases hv
      subst e
      exact List.mem_cons_self
    · rw [List.getElem?_set_ne (Ne.symm hj)] at hv
      refine List.mem_cons_of_mem _ (List.mem_filter.mpr ⟨mLp_mem.mpr ⟨v', hv, e⟩, ?_⟩)
      have h2 : ¬ (j + 1 = i ∧ w.category = 2) := by
        rintro ⟨h3, h4⟩
        have h5 := mNL_cat hN h3 hv
        rw [e, mCv_cat, h5] at h4
        cases h4
      simp only [Bool.and_eq_true, Bool.not_eq_true', beq_eq_false_iff_ne, ne_eq, Bool.and_eq_false_iff]
      refine ⟨hj, hj1, ?_⟩
      by_cases h3 : j + 1 = i
      · exact Or.inr (fun h4 => h2 ⟨h3, h4⟩)
      · exact Or.inl h3
theorem mLp_ad {ad ad' : Nat → Nat} {L : mL} (h : ∀ x, some (Value.ref x) ∈ L → ad' x = ad x) : mLp ad' L = mLp ad L := by
  unfold mLp
  congr 1
  funext i
  split
  · rename_i v hv
    have hm : some v ∈ L := List.mem_of_getElem? hv
    cases v <;> simp only [mCv]
    rw [h _ hm]
  · rfl
theorem mSt_ad {ad ad' : Nat → Nat} {st : List Value} (h : ∀ x, Value.ref x ∈ st → ad' x = ad x) : st.map (mCv ad') = st.map (mCv ad) := by
  apply List.map_congr_left
  intro v hv
  cases v <;> simp only [mCv]
  rw [h _ hv]
/-- the machine at a place of the method, with any cells that the numbered heap tells, comes to its end -/
def mG (p : Program) (l : Launch) (e : Env) (R : Room) (s : State) (m : MethodId) (args : Array Value) (below : List Frame) (meth : Method) (c : Code) (D : va_G) (ta : Nat → ClassId) (A : Nat → Prop) (ad0 : Nat → Nat) (n0 s0 nL : Nat) (Q : State → Prop) (pc : Nat) (L : mL) (st : List Value) (σ : mMH) : Prop :=
  ∀ (ad : Nat → Nat) (H : Heap) (locs : List Loc) (ls : Array Slot) (cells slots : Nat), mAgr ad0 ad n0 σ.2.1.length → cells + n0 = σ.2.1.length → slots + s0 = σ.1 →
    va_P D mCL (mWs ta ad σ) H → va_D A (mWs ta ad σ) → va_S A s.heap H locs → L.length = nL → lv_has ls nL (mLp ad L) →
    W p l e R s m args below meth c H locs cells slots Q (F0 m pc ls (st.map (mCv ad)))
def mDc (cc : ByteArray) (pc : Nat) (i : Instr) (n : Nat) : Bool := decide (decode cc pc = .ok (i, n))
theorem mDc_ok {cc : ByteArray} {pc n : Nat} {i : Instr} (h : mDc cc pc i n = true) : decode cc pc = .ok (i, n) := of_decide_eq_true h
def mChkW (p : Nat) (w : Cond) : Bool := decide (mW p = some w) && goodWord w
theorem mChkW_in {p : Nat} {w : Cond} (h : mChkW p w = true) : w ∈ mWT := by
  simp only [mChkW, Bool.and_eq_true, decide_eq_true_eq] at h
  exact mW_in h.1 h.2
section MSND
variable {p : Program} {l : Launch} {e : Env} {R : Room} {s : State} {m : MethodId} {args : Array Value} {below : List Frame} {meth : Method} {c : Code} {cc : ByteArray} {D : va_G} {ta : Nat → ClassId} {A : Nat → Prop} {ad0 : Nat → Nat} {n0 s0 nL : Nat} {Q : State → Prop} {pc j len : Nat} {L : mL} {st : List Value} {σ : mMH} {own : String}
def mK0 (cc : ByteArray) (pc len : Nat) (v : Int32) : Bool := (len == 1 && mDc cc pc (.iconst v.toInt) 1) || ((len == 2 && (mDc cc pc (.bipush v.toInt) 2 && decide ((Int8.ofInt v.toInt).toInt32 = v))) || (len == 3 && (mDc cc pc (.sipush v.toInt) 3 && decide ((Int16.ofInt v.toInt).toInt32 = v))))
theorem sd_0 (S : CallFix p m c cc nL s args (mWS j) own) {v : Int32} (hck : mK0 cc pc len v = true) (k : mG p l e R s m args below meth c D ta A ad0 n0 s0 nL Q (pc + len) L (.int v :: st) σ) : mG p l e R s m args below meth c D ta A ad0 n0 s0 nL Q pc L st σ := by
  simp only [mK0, Bool.or_eq_true, Bool.and_eq_true, beq_iff_eq, decide_eq_true_eq] at hck
  intro ad H locs ls cells slots a1 a2 a3 a4 a5 a6 a7 a8
  rcases hck with ⟨rfl, h⟩ | ⟨rfl, h, h2⟩ | ⟨rfl, h, h2⟩
  · exact lv_iconst S.1 S.2.1 (mDc_ok h) (Int32.ofInt_toInt v) (k ad H locs ls cells slots a1 a2 a3 a4 a5 a6 a7 a8)
  · exact lv_bipush S.1 S.2.1 (mDc_ok h) h2 (k ad H locs ls cells slots a1 a2 a3 a4 a5 a6 a7 a8)
  · exact lv_sipush S.1 S.2.1 (mDc_ok h) h2 (k ad H locs ls cells slots a1 a2 a3 a4 a5 a6 a7 a8)
def mKn (cc : ByteArray) (pc len : Nat) (f : Fin 4 → Instr) (g : Nat → Instr) (i : Nat) : Bool := (len == 1 && (decide (i < 4) && mDc cc pc (f (Fin.ofNat 4 i)) 1)) || (len == 2 && mDc cc pc (g i) 2)
theorem sd_1 (S : CallFix p m c cc nL s args (mWS j) own) {i : Nat} {x : Int32} (hck : mKn cc pc len .iload_n .iload i = true) (hl : L[i]? = some (some (.int x))) (k : mG p l e R s m args below meth c D ta A ad0 n0 s0 nL Q (pc + len) L (.int x :: st) σ) : mG p l e R s m args below meth c D ta A ad0 n0 s0 nL Q pc L st σ := by
  simp only [mKn, Bool.or_eq_true, Bool.and_eq_true, beq_iff_eq, decide_eq_true_eq] at hck
  intro ad H locs ls cells slots a1 a2 a3 a4 a5 a6 a7 a8
  rcases hck with ⟨rfl, h1, h⟩ | ⟨rfl, h⟩
  · exact lv_iload_n S.1 S.2.1 (mDc_ok h) (Nat.mod_eq_of_lt h1) (mLp_at a8 hl) (k ad H locs ls cells slots a1 a2 a3 a4 a5 a6 a7 a8)
  · exact lv_iload S.1 S.2.1 (mDc_ok h) (mLp_at a8 hl) (k ad H locs ls cells slots a1 a2 a3 a4 a5 a6 a7 a8)
theorem sd_2 (S : CallFix p m c cc nL s args (mWS j) own) {i : Nat} {x : Nat} (hck : mKn cc pc len .aload_n .aload i = true) (hl : L[i]? = some (some (.ref x))) (k : mG p l e R s m args below meth c D ta A ad0 n0 s0 nL Q (pc + len) L (.ref x :: st) σ) : mG p l e R s m args below meth c D ta A ad0 n0 s0 nL Q pc L st σ := by
  simp only [mKn, Bool.or_eq_true, Bool.and_eq_true, beq_iff_eq, decide_eq_true_eq] at hck
  intro ad H locs ls cells slots a1 a2 a3 a4 a5 a6 a7 a8
  rcases hck with ⟨rfl, h1, h⟩ | ⟨rfl, h⟩
  · exact lv_aload_n S.1 S.2.1 (mDc_ok h) (Nat.mod_eq_of_lt h1) (mLp_at a8 hl) (k ad H locs ls cells slots a1 a2 a3 a4 a5 a6 a7 a8)
  · exact lv_aload S.1 S.2.1 (mDc_ok h) (mLp_at a8 hl) (k ad H locs ls cells slots a1 a2 a3 a4 a5 a6 a7 a8)
theorem sd_3 (S : CallFix p m c cc nL s args (mWS j) own) {i : Nat} {x : Int64} (hck : mKn cc pc len .lload_n .lload i = true) (hl : L[i]? = some (some (.long x))) (k : mG p l e R s m args below meth c D ta A ad0 n0 s0 nL Q (pc + len) L (.long x :: st) σ) : mG p l e R s m args below meth c D ta A ad0 n0 s0 nL Q pc L st σ := by
  simp only [mKn, Bool.or_eq_true, Bool.and_eq_true, beq_iff_eq, decide_eq_true_eq] at hck
  intro ad H locs ls cells slots a1 a2 a3 a4 a5 a6 a7 a8
  rcases hck with ⟨rfl, h1, h⟩ | ⟨rfl, h⟩
  · exact lv_lload_n S.1 S.2.1 (mDc_ok h) (Nat.mod_eq_of_lt h1) (mLp_at a8 hl) (k ad H locs ls cells slots a1 a2 a3 a4 a5 a6 a7 a8)
  · exact lv_lload S.1 S.2.1 (mDc_ok h) (mLp_at a8 hl) (k ad H locs ls cells slots a1 a2 a3 a4 a5 a6 a7 a8)
theorem sd_4 (S : CallFix p m c cc nL s args (mWS j) own) {i : Nat} {x : Int32} (hck : mKn cc pc len .istore_n .istore i = true) (hi : i < L.length) (hN : mNL L i = true) (k : mG p l e R s m args below meth c D ta A ad0 n0 s0 nL Q (pc + len) (L.set i (some (.int x))) st σ) : mG p l e R s m args below meth c D ta A ad0 n0 s0 nL Q pc L (.int x :: st) σ := by
  simp only [mKn, Bool.or_eq_true, Bool.and_eq_true, beq_iff_eq, decide_eq_true_eq] at hck
  intro ad H locs ls cells slots a1 a2 a3 a4 a5 a6 a7 a8
  rcases hck with ⟨rfl, h1, h⟩ | ⟨rfl, h⟩
  · exact lv_istore_n S.1 S.2.1 (mDc_ok h) (Nat.mod_eq_of_lt h1) a8 (a7 ▸ hi) rfl (fun ls' h8 => k ad H locs ls' cells slots a1 a2 a3 a4 a5 a6 (by rw [List.length_set]; exact a7) (lv_has_of h8 (mLp_set1 hN hi)))
  · exact lv_istore S.1 S.2.1 (mDc_ok h) a8 (a7 ▸ hi) rfl (fun ls' h8 => k ad H locs ls' cells slots a1 a2 a3 a4 a5 a6 (by rw [List.length_set]; exact a7) (lv_has_of h8 (mLp_set1 hN hi)))
theorem sd_5 (S : CallFix p m c cc nL s args (mWS j) own) {i : Nat} {x : Nat} (hck : mKn cc pc len .astore_n .astore i = true) (hi : i < L.length) (hN : mNL L i = true) (k : mG p l e R s m args below meth c D ta A ad0 n0 s0 nL Q (pc + len) (L.set i (some (.ref x))) st σ) : mG p l e R s m args below meth c D ta A ad0 n0 s0 nL Q pc L (.ref x :: st) σ := by
  simp only [mKn, Bool.or_eq_true, Bool.and_eq_true, beq_iff_eq, decide_eq_true_eq] at hck
  intro ad H locs ls cells slots a1 a2 a3 a4 a5 a6 a7 a8
  rcases hck with ⟨rfl, h1, h⟩ | ⟨rfl, h⟩
  · exact lv_astore_n S.1 S.2.1 (mDc_ok h) (Nat.mod_eq_of_lt h1) a8 (a7 ▸ hi) rfl (fun ls' h8 => k ad H locs ls' cells slots a1 a2 a3 a4 a5 a6 (by rw [List.length_set]; exact a7) (lv_has_of h8 (mLp_set1 (v := .ref x) hN hi)))
  · exact lv_astore S.1 S.2.1 (mDc_ok h) a8 (a7 ▸ hi) rfl (fun ls' h8 => k ad H locs ls' cells slots a1 a2 a3 a4 a5 a6 (by rw [List.length_set]; exact a7) (lv_has_of h8 (mLp_set1 (v := .ref x) hN hi)))
theorem sd_6 (S : CallFix p m c cc nL s args (mWS j) own) {i : Nat} {x : Int64} (hck : mKn cc pc len .lstore_n .lstore i = true) (hi : i + 1 < L.length) (hN : mNL L i = true) (k : mG p l e R s m args below meth c D ta A ad0 n0 s0 nL Q (pc + len) ((L.set i (some (.long x))).set (i + 1) none) st σ) : mG p l e R s m args below meth c D ta A ad0 n0 s0 nL Q pc L (.long x :: st) σ := by
  simp only [mKn, Bool.or_eq_true, Bool.and_eq_true, beq_iff_eq, decide_eq_true_eq] at hck
  intro ad H locs ls cells slots a1 a2 a3 a4 a5 a6 a7 a8
  rcases hck with ⟨rfl, h1, h⟩ | ⟨rfl, h⟩
  · exact lv_lstore_n S.1 S.2.1 (mDc_ok h) (Nat.mod_eq_of_lt h1) a8 (a7 ▸ hi) rfl (fun ls' h8 => k ad H locs ls' cells slots a1 a2 a3 a4 a5 a6 (by rw [List.length_set, List.length_set]; exact a7) (lv_has_of h8 (mLp_set2 (v := .long x) hN hi)))
  · exact lv_lstore S.1 S.2.1 (mDc_ok h) a8 (a7 ▸ hi) rfl (fun ls' h8 => k ad H locs ls' cells slots a1 a2 a3 a4 a5 a6 (by rw [List.length_set, List.length_set]; exact a7) (lv_has_of h8 (mLp_set2 (v := .long x) hN hi)))
theorem mLp_place {ad : Nat → Nat} {i : Nat} {v : Value} (hl : L[i]? = some (some v)) : ∃ k : Nat, (mLp ad L)[k]? = some (i, mCv ad v) := List.getElem?_of_mem (mLp_mem.mpr ⟨v, hl, rfl⟩)
def mK7 (cc : ByteArray) (pc len i : Nat) (v : Int32) : Bool := len == 3 && (decide (i ≠ 0) && mDc cc pc (.iinc i v.toInt) 3)
theorem sd_7 (S : CallFix p m c cc nL s args (mWS j) own) {i : Nat} {x v : Int32} (hck : mK7 cc pc len i v = true) (hl : L[i]? = some (some (.int x))) (hN : mNL L i = true) (k : mG p l e R s m args below meth c D ta A ad0 n0 s0 nL Q (pc + len) (L.set i (some (.int (x + v)))) st σ) : mG p l e R s m args below meth c D ta A ad0 n0 s0 nL Q pc L st σ := by
  simp only [mK7, Bool.and_eq_true, beq_iff_eq, decide_eq_true_eq] at hck
  intro ad H locs ls cells slots a1 a2 a3 a4 a5 a6 a7 a8
  obtain ⟨rfl, h1, h⟩ := hck
  have hi : i < L.length := (List.getElem?_eq_some_iff.mp hl).1
  obtain ⟨q, hq⟩ := mLp_place (ad := ad) hl
  exact lv_iinc (v := x + v) S.1 S.2.1 (mDc_ok h) a8 (k := q) hq (by rw [Int32.ofInt_toInt]) (a7 ▸ hi) rfl (fun ls' h8 => k ad H locs ls' cells slots a1 a2 a3 a4 a5 a6 (by rw [List.length_set]; exact a7) (lv_has_of h8 (mLp_set1 (v := .int (x + v)) hN hi)))
end MSND
