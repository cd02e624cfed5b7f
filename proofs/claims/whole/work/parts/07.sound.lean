/-! SOUNDNESS: what the step machine does, the JVM does -/
def mRm (d mc ms : Nat) : Room := { frames := d, cells := mc, slots := ms, locals := 30 * d }
def mKs (D : va_G) (ta : Nat → ClassId) (ad : Nat → Nat) (A : Nat → Prop) (U : State) : Prop := va_K D mCL (mTYs ta) U ∧ (∀ w ∈ mNW, va_Nw w U) ∧ va_AO "MeetingMachines$Link" U ∧ va_AO "MeetingMachines$Machine" U ∧ va_AO "MeetingMachines$World" U ∧ mSs ad A U
def mAgr (ad ad' : Nat → Nat) (a b : Nat) : Prop := ∀ o, o < a ∨ b ≤ o → ad' o = ad o
def mQc (D : va_G) (ta : Nat → ClassId) (ad : Nat → Nat) (sz : Nat) (σ : mMH) (r : Option Int32) (σ' : mMH) : Array Value → State → Outcome → State → Prop := match r with
  | some x => va_Qi (S := Nat → Nat) (fun y ad' => y = x ∧ mAgr ad ad' σ.2.1.length σ'.2.1.length) (fun ad' t => va_P D mCL (mWs ta ad' σ') t.heap ∧ va_D (va_A (mWs ta ad σ) sz) (mWs ta ad' σ')) (va_A (mWs ta ad σ) sz)
  | none => va_Qv (S := Nat → Nat) (fun ad' => mAgr ad ad' σ.2.1.length σ'.2.1.length) (fun ad' t => va_P D mCL (mWs ta ad' σ') t.heap ∧ va_D (va_A (mWs ta ad σ) sz) (mWs ta ad' σ')) (va_A (mWs ta ad σ) sz)
def mPc (D : va_G) (ta : Nat → ClassId) (ad : Nat → Nat) (sz : Nat) (as : List Value) (σ : mMH) : Array Value → State → Prop := va_Pc (as.map (mCv ad)) (fun U => U.heap.size = sz ∧ va_P D mCL (mWs ta ad σ) U.heap ∧ mKs D ta ad (va_A (mWs ta ad σ) sz) U ∧ va_D (fun _ => True) (mWs ta ad σ))
/-- the contract of method j, out of one run of the step machine -/
def mMet (l : Launch) (d j : Nat) (as : List Value) (σ : mMH) (r : Option Int32) (σ' : mMH) : Prop := ∀ (D : va_G) (ta : Nat → ClassId) (ad : Nat → Nat) (sz : Nat), Met l (mt j).2.1 (mWS j) (mRm d (σ'.2.1.length - σ.2.1.length) (σ'.1 - σ.1)) (mPc D ta ad sz as σ) (mQc D ta ad sz σ r σ') (σ'.2.1.length - σ.2.1.length) (σ'.1 - σ.1) (va_A (mWs ta ad σ) sz)
def mLp (ad : Nat → Nat) (L : mL) : List (Nat × Value) := (List.range L.length).filterMap (fun i => match L[i]? with
  | some (some v) => some (i, mCv ad v)
  | _ => none)
theorem mLp_mem {ad : Nat → Nat} {L : mL} {q : Nat × Value} : q ∈ mLp ad L ↔ ∃ v, L[q.1]? = some (some v) ∧ q.2 = mCv ad v := by
  unfold mLp
  rw [List.mem_filterMap]
  constructor
  · rintro ⟨i, hi, h⟩
    split at h
    · rename_i v hv
      cases h
      exact ⟨v, hv, rfl⟩
    · cases h
  · rintro ⟨v, hv, e⟩
    refine ⟨q.1, List.mem_range.mpr (List.getElem?_eq_some_iff.mp hv).1, ?_⟩
    simp only [hv, ← e]
theorem mLp_at {ad : Nat → Nat} {L : mL} {ls : Array Slot} {nL i : Nat} {v : Value} (h : lv_has ls nL (mLp ad L)) (hi : L[i]? = some (some v)) : ls[i]? = some (.val (mCv ad v)) := h.2.2 (i, mCv ad v) (mLp_mem.mpr ⟨v, hi, rfl⟩)
theorem lv_has_of {ls : Array Slot} {nL : Nat} {l1 l2 : List (Nat × Value)} (h : lv_has ls nL l1) (hs : ∀ q ∈ l2, q ∈ l1) : lv_has ls nL l2 := ⟨h.1, h.2.1, fun q hq => h.2.2 q (hs q hq)⟩
theorem mNL_cat {L : mL} {i j : Nat} {v : Value} (h : mNL L i = true) (hj : j + 1 = i) (hv : L[j]? = some (some v)) : v.category = 1 := by
  unfold mNL at h
  rw [show i - 1 = j by omega, hv] at h
  simpa using h
theorem mLp_set1 {ad : Nat → Nat} {L : mL} {i : Nat} {v : Value} (hN : mNL L i = true) (hi : i < L.length) : ∀ q ∈ mLp ad (L.set i (some v)), q ∈ (i, mCv ad v) :: (mLp ad L).filter (fun q => !(q.1 == i) && !(q.1 + 1 == i && q.2.category == 2)) := by
  intro q hq
  obtain ⟨v', hv, e⟩ := mLp_mem.mp hq
  obtain ⟨j, w⟩ := q
  dsimp only at hv e
  by_cases hj : j = i
  · subst hj
    rw [List.getElem?_set_self hi] at hv
    cases hv
    subst e
    exact List.mem_cons_self
  · rw [List.getElem?_set_ne (Ne.symm hj)] at hv
    refine List.mem_cons_of_mem _ (List.mem_filter.mpr ⟨mLp_mem.mpr ⟨v', hv, e⟩, ?_⟩)
    have h2 : ¬ (j + 1 = i ∧ w.category = 2) := by
      rintro ⟨h3, h4⟩
      have h5 := mNL_cat hN h3 hv
      rw [e, mCv_cat, h5] at h4
      cases h4
    simp only [Bool.and_eq_true, Bool.not_eq_true', beq_eq_false_iff_ne, ne_eq, Bool.and_eq_false_iff]
    refine ⟨hj, ?_⟩
    by_cases h3 : j + 1 = i
    · exact Or.inr (fun h4 => h2 ⟨h3, h4⟩)
    · exact Or.inl h3
theorem mLp_set2 {ad : Nat → Nat} {L : mL} {i : Nat} {v : Value} (hN : mNL L i = true) (hi : i + 1 < L.length) : ∀ q ∈ mLp ad ((L.set i (some v)).set (i + 1) none), q ∈ (i, mCv ad v) :: (mLp ad L).filter (fun q => !(q.1 == i) && (!(q.1 == i + 1) && !(q.1 + 1 == i && q.2.category == 2))) := by
  intro q hq
  obtain ⟨v', hv, e⟩ := mLp_mem.mp hq
  obtain ⟨j, w⟩ := q
  dsimp only at hv e
  by_cases hj1 : j = i + 1
  · subst hj1
    rw [List.getElem?_set_self (by simpa using hi)] at hv
    cases hv
  · rw [List.getElem?_set_ne (Ne.symm hj1)] at hv
    by_cases hj : j = i
    · subst hj
      rw [List.getElem?_set_self (by omega)] at hv
      cases hv
      subst e
      exact List.mem_cons_self
    · rw [List.getElem?_set_ne (Ne.symm hj)] at hv
      refine List.mem_cons_of_mem _ (List.mem_filter.mpr ⟨mLp_mem.mpr ⟨v', hv, e⟩, ?_⟩)
      have h2 : ¬ (j + 1 = i ∧ w.category = 2) := by
        rintro ⟨h3, h4⟩
        have h5 := mNL_cat hN h3 hv
        rw [e, mCv_cat, h5] at h4
        cases h4
      simp only [Bool.and_eq_true, Bool.not_eq_true', beq_eq_false_iff_ne, ne_eq, Bool.and_eq_false_iff]
      refine ⟨hj, hj1, ?_⟩
      by_cases h3 : j + 1 = i
      · exact Or.inr (fun h4 => h2 ⟨h3, h4⟩)
      · exact Or.inl h3
theorem mLp_ad {ad ad' : Nat → Nat} {L : mL} (h : ∀ x, some (Value.ref x) ∈ L → ad' x = ad x) : mLp ad' L = mLp ad L := by
  unfold mLp
  congr 1
  funext i
  split
  · rename_i v hv
    have hm : some v ∈ L := List.mem_of_getElem? hv
    cases v <;> simp only [mCv]
    rw [h _ hm]
  · rfl
theorem mSt_ad {ad ad' : Nat → Nat} {st : List Value} (h : ∀ x, Value.ref x ∈ st → ad' x = ad x) : st.map (mCv ad') = st.map (mCv ad) := by
  apply List.map_congr_left
  intro v hv
  cases v <;> simp only [mCv]
  rw [h _ hv]
/-- the machine at a place of the method, with any cells that the numbered heap tells, comes to its end -/
def mG (p : Program) (l : Launch) (e : Env) (R : Room) (s : State) (m : MethodId) (args : Array Value) (below : List Frame) (meth : Method) (c : Code) (D : va_G) (ta : Nat → ClassId) (A : Nat → Prop) (ad0 : Nat → Nat) (n0 s0 nL : Nat) (Q : State → Prop) (pc : Nat) (L : mL) (st : List Value) (σ : mMH) : Prop :=
  ∀ (ad : Nat → Nat) (H : Heap) (locs : List Loc) (ls : Array Slot) (cells slots : Nat), mAgr ad0 ad n0 σ.2.1.length → cells + n0 = σ.2.1.length → slots + s0 = σ.1 →
    va_P D mCL (mWs ta ad σ) H → va_D A (mWs ta ad σ) → va_S A s.heap H locs → L.length = nL → lv_has ls nL (mLp ad L) →
    W p l e R s m args below meth c H locs cells slots Q (F0 m pc ls (st.map (mCv ad)))
def mDc (cc : ByteArray) (pc : Nat) (i : Instr) (n : Nat) : Bool := decide (decode cc pc = .ok (i, n))
theorem mDc_ok {cc : ByteArray} {pc n : Nat} {i : Instr} (h : mDc cc pc i n = true) : decode cc pc = .ok (i, n) := of_decide_eq_true h
def mChkW (p : Nat) (w : Cond) : Bool := decide (mW p = some w) && goodWord w
theorem mChkW_in {p : Nat} {w : Cond} (h : mChkW p w = true) : w ∈ mWT := by
  simp only [mChkW, Bool.and_eq_true, decide_eq_true_eq] at h
  exact mW_in h.1 h.2
section MSND
variable {p : Program} {l : Launch} {e : Env} {R : Room} {s : State} {m : MethodId} {args : Array Value} {below : List Frame} {meth : Method} {c : Code} {cc : ByteArray} {D : va_G} {ta : Nat → ClassId} {A : Nat → Prop} {ad0 : Nat → Nat} {n0 s0 nL : Nat} {Q : State → Prop} {pc j len : Nat} {L : mL} {st : List Value} {σ : mMH} {own : String}
def mK0 (cc : ByteArray) (pc len : Nat) (v : Int32) : Bool := (len == 1 && mDc cc pc (.iconst v.toInt) 1) || ((len == 2 && (mDc cc pc (.bipush v.toInt) 2 && decide ((Int8.ofInt v.toInt).toInt32 = v))) || (len == 3 && (mDc cc pc (.sipush v.toInt) 3 && decide ((Int16.ofInt v.toInt).toInt32 = v))))
theorem sd_0 (S : CallFix p m c cc nL s args (mWS j) own) {v : Int32} (hck : mK0 cc pc len v = true) (k : mG p l e R s m args below meth c D ta A ad0 n0 s0 nL Q (pc + len) L (.int v :: st) σ) : mG p l e R s m args below meth c D ta A ad0 n0 s0 nL Q pc L st σ := by
  simp only [mK0, Bool.or_eq_true, Bool.and_eq_true, beq_iff_eq, decide_eq_true_eq] at hck
  intro ad H locs ls cells slots a1 a2 a3 a4 a5 a6 a7 a8
  rcases hck with ⟨rfl, h⟩ | ⟨rfl, h, h2⟩ | ⟨rfl, h, h2⟩
  · exact lv_iconst S.1 S.2.1 (mDc_ok h) (Int32.ofInt_toInt v) (k ad H locs ls cells slots a1 a2 a3 a4 a5 a6 a7 a8)
  · exact lv_bipush S.1 S.2.1 (mDc_ok h) h2 (k ad H locs ls cells slots a1 a2 a3 a4 a5 a6 a7 a8)
  · exact lv_sipush S.1 S.2.1 (mDc_ok h) h2 (k ad H locs ls cells slots a1 a2 a3 a4 a5 a6 a7 a8)
def mKn (cc : ByteArray) (pc len : Nat) (f : Fin 4 → Instr) (g : Nat → Instr) (i : Nat) : Bool := (len == 1 && (decide (i < 4) && mDc cc pc (f (Fin.ofNat 4 i)) 1)) || (len == 2 && mDc cc pc (g i) 2)
theorem sd_1 (S : CallFix p m c cc nL s args (mWS j) own) {i : Nat} {x : Int32} (hck : mKn cc pc len .iload_n .iload i = true) (hl : L[i]? = some (some (.int x))) (k : mG p l e R s m args below meth c D ta A ad0 n0 s0 nL Q (pc + len) L (.int x :: st) σ) : mG p l e R s m args below meth c D ta A ad0 n0 s0 nL Q pc L st σ := by
  simp only [mKn, Bool.or_eq_true, Bool.and_eq_true, beq_iff_eq, decide_eq_true_eq] at hck
  intro ad H locs ls cells slots a1 a2 a3 a4 a5 a6 a7 a8
  rcases hck with ⟨rfl, h1, h⟩ | ⟨rfl, h⟩
  · exact lv_iload_n S.1 S.2.1 (mDc_ok h) (Nat.mod_eq_of_lt h1) (mLp_at a8 hl) (k ad H locs ls cells slots a1 a2 a3 a4 a5 a6 a7 a8)
  · exact lv_iload S.1 S.2.1 (mDc_ok h) (mLp_at a8 hl) (k ad H locs ls cells slots a1 a2 a3 a4 a5 a6 a7 a8)
theorem sd_2 (S : CallFix p m c cc nL s args (mWS j) own) {i : Nat} {x : Nat} (hck : mKn cc pc len .aload_n .aload i = true) (hl : L[i]? = some (some (.ref x))) (k : mG p l e R s m args below meth c D ta A ad0 n0 s0 nL Q (pc + len) L (.ref x :: st) σ) : mG p l e R s m args below meth c D ta A ad0 n0 s0 nL Q pc L st σ := by
  simp only [mKn, Bool.or_eq_true, Bool.and_eq_true, beq_iff_eq, decide_eq_true_eq] at hck
  intro ad H locs ls cells slots a1 a2 a3 a4 a5 a6 a7 a8
  rcases hck with ⟨rfl, h1, h⟩ | ⟨rfl, h⟩
  · exact lv_aload_n S.1 S.2.1 (mDc_ok h) (Nat.mod_eq_of_lt h1) (mLp_at a8 hl) (k ad H locs ls cells slots a1 a2 a3 a4 a5 a6 a7 a8)
  · exact lv_aload S.1 S.2.1 (mDc_ok h) (mLp_at a8 hl) (k ad H locs ls cells slots a1 a2 a3 a4 a5 a6 a7 a8)
theorem sd_3 (S : CallFix p m c cc nL s args (mWS j) own) {i : Nat} {x : Int64} (hck : mKn cc pc len .lload_n .lload i = true) (hl : L[i]? = some (some (.long x))) (k : mG p l e R s m args below meth c D ta A ad0 n0 s0 nL Q (pc + len) L (.long x :: st) σ) : mG p l e R s m args below meth c D ta A ad0 n0 s0 nL Q pc L st σ := by
  simp only [mKn, Bool.or_eq_true, Bool.and_eq_true, beq_iff_eq, decide_eq_true_eq] at hck
  intro ad H locs ls cells slots a1 a2 a3 a4 a5 a6 a7 a8
  rcases hck with ⟨rfl, h1, h⟩ | ⟨rfl, h⟩
  · exact lv_lload_n S.1 S.2.1 (mDc_ok h) (Nat.mod_eq_of_lt h1) (mLp_at a8 hl) (k ad H locs ls cells slots a1 a2 a3 a4 a5 a6 a7 a8)
  · exact lv_lload S.1 S.2.1 (mDc_ok h) (mLp_at a8 hl) (k ad H locs ls cells slots a1 a2 a3 a4 a5 a6 a7 a8)
theorem sd_4 (S : CallFix p m c cc nL s args (mWS j) own) {i : Nat} {x : Int32} (hck : mKn cc pc len .istore_n .istore i = true) (hi : i < L.length) (hN : mNL L i = true) (k : mG p l e R s m args below meth c D ta A ad0 n0 s0 nL Q (pc + len) (L.set i (some (.int x))) st σ) : mG p l e R s m args below meth c D ta A ad0 n0 s0 nL Q pc L (.int x :: st) σ := by
  simp only [mKn, Bool.or_eq_true, Bool.and_eq_true, beq_iff_eq, decide_eq_true_eq] at hck
  intro ad H locs ls cells slots a1 a2 a3 a4 a5 a6 a7 a8
  rcases hck with ⟨rfl, h1, h⟩ | ⟨rfl, h⟩
  · exact lv_istore_n S.1 S.2.1 (mDc_ok h) (Nat.mod_eq_of_lt h1) a8 (a7 ▸ hi) rfl (fun ls' h8 => k ad H locs ls' cells slots a1 a2 a3 a4 a5 a6 (by rw [List.length_set]; exact a7) (lv_has_of h8 (mLp_set1 hN hi)))
  · exact lv_istore S.1 S.2.1 (mDc_ok h) a8 (a7 ▸ hi) rfl (fun ls' h8 => k ad H locs ls' cells slots a1 a2 a3 a4 a5 a6 (by rw [List.length_set]; exact a7) (lv_has_of h8 (mLp_set1 hN hi)))
theorem sd_5 (S : CallFix p m c cc nL s args (mWS j) own) {i : Nat} {x : Nat} (hck : mKn cc pc len .astore_n .astore i = true) (hi : i < L.length) (hN : mNL L i = true) (k : mG p l e R s m args below meth c D ta A ad0 n0 s0 nL Q (pc + len) (L.set i (some (.ref x))) st σ) : mG p l e R s m args below meth c D ta A ad0 n0 s0 nL Q pc L (.ref x :: st) σ := by
  simp only [mKn, Bool.or_eq_true, Bool.and_eq_true, beq_iff_eq, decide_eq_true_eq] at hck
  intro ad H locs ls cells slots a1 a2 a3 a4 a5 a6 a7 a8
  rcases hck with ⟨rfl, h1, h⟩ | ⟨rfl, h⟩
  · exact lv_astore_n S.1 S.2.1 (mDc_ok h) (Nat.mod_eq_of_lt h1) a8 (a7 ▸ hi) rfl (fun ls' h8 => k ad H locs ls' cells slots a1 a2 a3 a4 a5 a6 (by rw [List.length_set]; exact a7) (lv_has_of h8 (mLp_set1 (v := .ref x) hN hi)))
  · exact lv_astore S.1 S.2.1 (mDc_ok h) a8 (a7 ▸ hi) rfl (fun ls' h8 => k ad H locs ls' cells slots a1 a2 a3 a4 a5 a6 (by rw [List.length_set]; exact a7) (lv_has_of h8 (mLp_set1 (v := .ref x) hN hi)))
theorem sd_6 (S : CallFix p m c cc nL s args (mWS j) own) {i : Nat} {x : Int64} (hck : mKn cc pc len .lstore_n .lstore i = true) (hi : i + 1 < L.length) (hN : mNL L i = true) (k : mG p l e R s m args below meth c D ta A ad0 n0 s0 nL Q (pc + len) ((L.set i (some (.long x))).set (i + 1) none) st σ) : mG p l e R s m args below meth c D ta A ad0 n0 s0 nL Q pc L (.long x :: st) σ := by
  simp only [mKn, Bool.or_eq_true, Bool.and_eq_true, beq_iff_eq, decide_eq_true_eq] at hck
  intro ad H locs ls cells slots a1 a2 a3 a4 a5 a6 a7 a8
  rcases hck with ⟨rfl, h1, h⟩ | ⟨rfl, h⟩
  · exact lv_lstore_n S.1 S.2.1 (mDc_ok h) (Nat.mod_eq_of_lt h1) a8 (a7 ▸ hi) rfl (fun ls' h8 => k ad H locs ls' cells slots a1 a2 a3 a4 a5 a6 (by rw [List.length_set, List.length_set]; exact a7) (lv_has_of h8 (mLp_set2 (v := .long x) hN hi)))
  · exact lv_lstore S.1 S.2.1 (mDc_ok h) a8 (a7 ▸ hi) rfl (fun ls' h8 => k ad H locs ls' cells slots a1 a2 a3 a4 a5 a6 (by rw [List.length_set, List.length_set]; exact a7) (lv_has_of h8 (mLp_set2 (v := .long x) hN hi)))
theorem mLp_place {ad : Nat → Nat} {i : Nat} {v : Value} (hl : L[i]? = some (some v)) : ∃ k : Nat, (mLp ad L)[k]? = some (i, mCv ad v) := List.getElem?_of_mem (mLp_mem.mpr ⟨v, hl, rfl⟩)
def mK7 (cc : ByteArray) (pc len i : Nat) (v : Int32) : Bool := len == 3 && (decide (i ≠ 0) && mDc cc pc (.iinc i v.toInt) 3)
theorem sd_7 (S : CallFix p m c cc nL s args (mWS j) own) {i : Nat} {x v : Int32} (hck : mK7 cc pc len i v = true) (hl : L[i]? = some (some (.int x))) (hN : mNL L i = true) (k : mG p l e R s m args below meth c D ta A ad0 n0 s0 nL Q (pc + len) (L.set i (some (.int (x + v)))) st σ) : mG p l e R s m args below meth c D ta A ad0 n0 s0 nL Q pc L st σ := by
  simp only [mK7, Bool.and_eq_true, beq_iff_eq, decide_eq_true_eq] at hck
  intro ad H locs ls cells slots a1 a2 a3 a4 a5 a6 a7 a8
  obtain ⟨rfl, h1, h⟩ := hck
  have hi : i < L.length := (List.getElem?_eq_some_iff.mp hl).1
  obtain ⟨q, hq⟩ := mLp_place (ad := ad) hl
  exact lv_iinc (v := x + v) S.1 S.2.1 (mDc_ok h) a8 (k := q) hq (by rw [Int32.ofInt_toInt]) (a7 ▸ hi) rfl (fun ls' h8 => k ad H locs ls' cells slots a1 a2 a3 a4 a5 a6 (by rw [List.length_set]; exact a7) (lv_has_of h8 (mLp_set1 (v := .int (x + v)) hN hi)))
theorem sd_top {v w : Value} (h : v = w) (k : mG p l e R s m args below meth c D ta A ad0 n0 s0 nL Q pc L (w :: st) σ) : mG p l e R s m args below meth c D ta A ad0 n0 s0 nL Q pc L (v :: st) σ := h ▸ k
def mIb (k : Nat) : Instr := match k with
  | 0 => .iadd
  | 1 => .isub
  | 2 => .imul
  | 3 => .iand
  | 4 => .ishr
  | _ => .iushr
def mK1 (cc : ByteArray) (pc len : Nat) (i : Instr) : Bool := len == 1 && mDc cc pc i 1
theorem sd_8 (S : CallFix p m c cc nL s args (mWS j) own) {b : Nat} {x y : Int32} (hck : mK1 cc pc len (mIb b) = true) (k : mG p l e R s m args below meth c D ta A ad0 n0 s0 nL Q (pc + len) L (.int (mBin b x y) :: st) σ) : mG p l e R s m args below meth c D ta A ad0 n0 s0 nL Q pc L (.int y :: .int x :: st) σ := by
  simp only [mK1, Bool.and_eq_true, beq_iff_eq] at hck
  obtain ⟨rfl, h⟩ := hck
  have h := mDc_ok h
  intro ad H locs ls cells slots a1 a2 a3 a4 a5 a6 a7 a8
  have k := k ad H locs ls cells slots a1 a2 a3 a4 a5 a6 a7 a8
  match b, h, k with
  | 0, h, k => exact lv_iadd S.1 S.2.1 h k
  | 1, h, k => exact lv_isub S.1 S.2.1 h k
  | 2, h, k => exact lv_imul S.1 S.2.1 h k
  | 3, h, k => exact lv_iand S.1 S.2.1 h k
  | 4, h, k => exact lv_ishr S.1 S.2.1 h k
  | n + 5, h, k => exact lv_iushr S.1 S.2.1 h rfl k
theorem sd_9 (S : CallFix p m c cc nL s args (mWS j) own) {b : Nat} {x y : Int32} (hck : mK1 cc pc len (match b with | 0 => .idiv | _ => .irem) = true) (hy : ¬ y = 0) (k : mG p l e R s m args below meth c D ta A ad0 n0 s0 nL Q (pc + len) L (.int (mDR b x y) :: st) σ) : mG p l e R s m args below meth c D ta A ad0 n0 s0 nL Q pc L (.int y :: .int x :: st) σ := by
  simp only [mK1, Bool.and_eq_true, beq_iff_eq] at hck
  obtain ⟨rfl, h⟩ := hck
  have h := mDc_ok h
  intro ad H locs ls cells slots a1 a2 a3 a4 a5 a6 a7 a8
  have k := k ad H locs ls cells slots a1 a2 a3 a4 a5 a6 a7 a8
  match b, h, k with
  | 0, h, k => exact lv_idiv S.1 S.2.1 h hy k
  | n + 1, h, k => exact lv_irem S.1 S.2.1 h hy k
theorem sd_10 (S : CallFix p m c cc nL s args (mWS j) own) {b : Nat} {x : Int32} (hck : mK1 cc pc len (match b with | 0 => .ineg | _ => .i2b) = true) (k : mG p l e R s m args below meth c D ta A ad0 n0 s0 nL Q (pc + len) L (.int (mUn b x) :: st) σ) : mG p l e R s m args below meth c D ta A ad0 n0 s0 nL Q pc L (.int x :: st) σ := by
  simp only [mK1, Bool.and_eq_true, beq_iff_eq] at hck
  obtain ⟨rfl, h⟩ := hck
  have h := mDc_ok h
  intro ad H locs ls cells slots a1 a2 a3 a4 a5 a6 a7 a8
  have k := k ad H locs ls cells slots a1 a2 a3 a4 a5 a6 a7 a8
  match b, h, k with
  | 0, h, k => exact lv_ineg S.1 S.2.1 h k
  | n + 1, h, k => exact lv_i2b S.1 S.2.1 h rfl k
def mIl (k : Nat) : Instr := match k with
  | 0 => .ladd
  | 1 => .lsub
  | _ => .lmul
theorem sd_11 (S : CallFix p m c cc nL s args (mWS j) own) {b : Nat} {x y : Int64} (hck : mK1 cc pc len (mIl b) = true) (k : mG p l e R s m args below meth c D ta A ad0 n0 s0 nL Q (pc + len) L (.long (mLB b x y) :: st) σ) : mG p l e R s m args below meth c D ta A ad0 n0 s0 nL Q pc L (.long y :: .long x :: st) σ := by
  simp only [mK1, Bool.and_eq_true, beq_iff_eq] at hck
  obtain ⟨rfl, h⟩ := hck
  have h := mDc_ok h
  intro ad H locs ls cells slots a1 a2 a3 a4 a5 a6 a7 a8
  have k := k ad H locs ls cells slots a1 a2 a3 a4 a5 a6 a7 a8
  match b, h, k with
  | 0, h, k => exact lv_ladd S.1 S.2.1 h k
  | 1, h, k => exact lv_lsub S.1 S.2.1 h k
  | n + 2, h, k => exact lv_lmul S.1 S.2.1 h k
theorem sd_12 (S : CallFix p m c cc nL s args (mWS j) own) {x y : Int64} (hck : mK1 cc pc len .lcmp = true) (k : mG p l e R s m args below meth c D ta A ad0 n0 s0 nL Q (pc + len) L (.int (lg_cmp x y) :: st) σ) : mG p l e R s m args below meth c D ta A ad0 n0 s0 nL Q pc L (.long y :: .long x :: st) σ := by
  simp only [mK1, Bool.and_eq_true, beq_iff_eq] at hck
  obtain ⟨rfl, h⟩ := hck
  intro ad H locs ls cells slots a1 a2 a3 a4 a5 a6 a7 a8
  exact W.lcmp S.1 S.2.1 (mDc_ok h) (k ad H locs ls cells slots a1 a2 a3 a4 a5 a6 a7 a8)
theorem sd_13 (S : CallFix p m c cc nL s args (mWS j) own) {x : Int32} (hck : mK1 cc pc len .i2l = true) (k : mG p l e R s m args below meth c D ta A ad0 n0 s0 nL Q (pc + len) L (.long x.toInt64 :: st) σ) : mG p l e R s m args below meth c D ta A ad0 n0 s0 nL Q pc L (.int x :: st) σ := by
  simp only [mK1, Bool.and_eq_true, beq_iff_eq] at hck
  obtain ⟨rfl, h⟩ := hck
  intro ad H locs ls cells slots a1 a2 a3 a4 a5 a6 a7 a8
  exact lv_i2l S.1 S.2.1 (mDc_ok h) rfl (k ad H locs ls cells slots a1 a2 a3 a4 a5 a6 a7 a8)
def mK14 (x : Nat) (cc : ByteArray) (pc len : Nat) (v : Int32) (ps : List Nat) : Bool := (len == 1 && ((decide (v = 0) && mDc cc pc (.lconst 0) 1) || (decide (v = 1) && mDc cc pc (.lconst 1) 1))) || (len == 3 && (match ps with | idx :: q :: _ => mDc cc pc (.ldc2_w idx) 3 && decide (mLK q = some (x, idx, v)) | _ => false))
theorem sd_14 {x : Nat} (S : CallFix p m c cc nL s args (mWS j) (mOwn x)) {v : Int32} {ps : List Nat} (hck : mK14 x cc pc len v ps = true) (k : mG p l e R s m args below meth c D ta A ad0 n0 s0 nL Q (pc + len) L (.long v.toInt64 :: st) σ) : mG p l e R s m args below meth c D ta A ad0 n0 s0 nL Q pc L st σ := by
  simp only [mK14, Bool.or_eq_true, Bool.and_eq_true, beq_iff_eq, decide_eq_true_eq] at hck
  intro ad H locs ls cells slots a1 a2 a3 a4 a5 a6 a7 a8
  rcases hck with ⟨rfl, ⟨rfl, h⟩ | ⟨rfl, h⟩⟩ | ⟨rfl, h⟩
  · exact lv_lconst S.1 S.2.1 (mDc_ok h) rfl (k ad H locs ls cells slots a1 a2 a3 a4 a5 a6 a7 a8)
  · exact lv_lconst S.1 S.2.1 (mDc_ok h) rfl (k ad H locs ls cells slots a1 a2 a3 a4 a5 a6 a7 a8)
  · split at h
    · rw [Bool.and_eq_true] at h
      exact lv_ldc2 S.1 S.2.1 S.2.2.2.1 (S.2.2.2.2 _ (List.mem_cons_of_mem _ (mLK_ok (of_decide_eq_true h.2)))) (mDc_ok h.1) (k ad H locs ls cells slots a1 a2 a3 a4 a5 a6 a7 a8)
    · cases h
theorem sd_15 (S : CallFix p m c cc nL s args (mWS j) own) {v : Value} (hck : mK1 cc pc len .dup = true) (hv : v.category = 1) (k : mG p l e R s m args below meth c D ta A ad0 n0 s0 nL Q (pc + len) L (v :: v :: st) σ) : mG p l e R s m args below meth c D ta A ad0 n0 s0 nL Q pc L (v :: st) σ := by
  simp only [mK1, Bool.and_eq_true, beq_iff_eq] at hck
  obtain ⟨rfl, h⟩ := hck
  intro ad H locs ls cells slots a1 a2 a3 a4 a5 a6 a7 a8
  exact lv_dup S.1 S.2.1 (mDc_ok h) ((mCv_cat ad v).trans hv) (k ad H locs ls cells slots a1 a2 a3 a4 a5 a6 a7 a8)
theorem sd_16 (S : CallFix p m c cc nL s args (mWS j) own) {v w : Value} (hck : mK1 cc pc len .dup2 = true) (hv : v.category = 1) (hw : w.category = 1) (k : mG p l e R s m args below meth c D ta A ad0 n0 s0 nL Q (pc + len) L (v :: w :: v :: w :: st) σ) : mG p l e R s m args below meth c D ta A ad0 n0 s0 nL Q pc L (v :: w :: st) σ := by
  simp only [mK1, Bool.and_eq_true, beq_iff_eq] at hck
  obtain ⟨rfl, h⟩ := hck
  intro ad H locs ls cells slots a1 a2 a3 a4 a5 a6 a7 a8
  exact lv_dup2_11 S.1 S.2.1 (mDc_ok h) ((mCv_cat ad v).trans hv) ((mCv_cat ad w).trans hw) (k ad H locs ls cells slots a1 a2 a3 a4 a5 a6 a7 a8)
theorem sd_17 (S : CallFix p m c cc nL s args (mWS j) own) {v : Value} (hck : mK1 cc pc len .pop = true) (hv : v.category = 1) (k : mG p l e R s m args below meth c D ta A ad0 n0 s0 nL Q (pc + len) L st σ) : mG p l e R s m args below meth c D ta A ad0 n0 s0 nL Q pc L (v :: st) σ := by
  simp only [mK1, Bool.and_eq_true, beq_iff_eq] at hck
  obtain ⟨rfl, h⟩ := hck
  intro ad H locs ls cells slots a1 a2 a3 a4 a5 a6 a7 a8
  exact lv_pop S.1 S.2.1 (mDc_ok h) ((mCv_cat ad v).trans hv) (k ad H locs ls cells slots a1 a2 a3 a4 a5 a6 a7 a8)
def mIc (k : Nat) (off : Int) : Instr := match k with
  | 0 => .if_icmp .eq off
  | 1 => .if_icmp .ne off
  | 2 => .if_icmp .lt off
  | 3 => .if_icmp .ge off
  | 4 => .if_icmp .gt off
  | _ => .if_icmp .le off
def mIf (k : Nat) (off : Int) : Instr := match k with
  | 0 => .ifCond .eq off
  | 1 => .ifCond .ne off
  | 2 => .ifCond .lt off
  | 3 => .ifCond .ge off
  | 4 => .ifCond .gt off
  | _ => .ifCond .le off
def mK3 (cc : ByteArray) (pc len : Nat) (i : Instr) : Bool := len == 3 && mDc cc pc i 3
theorem mOff (pc tgt : Nat) : (pc : Int) + ((tgt : Int) - (pc : Int)) = (tgt : Int) := by omega
theorem sd_18 (S : CallFix p m c cc nL s args (mWS j) own) {b tgt : Nat} {x y : Int32} (hck : mK3 cc pc len (mIc b ((tgt : Int) - (pc : Int))) = true) (kt : mCmp b x y → mG p l e R s m args below meth c D ta A ad0 n0 s0 nL Q tgt L st σ) (kf : ¬ mCmp b x y → mG p l e R s m args below meth c D ta A ad0 n0 s0 nL Q (pc + len) L st σ) : mG p l e R s m args below meth c D ta A ad0 n0 s0 nL Q pc L (.int y :: .int x :: st) σ := by
  simp only [mK3, Bool.and_eq_true, beq_iff_eq] at hck
  obtain ⟨rfl, h⟩ := hck
  have h := mDc_ok h
  intro ad H locs ls cells slots a1 a2 a3 a4 a5 a6 a7 a8
  have kt := fun q => kt q ad H locs ls cells slots a1 a2 a3 a4 a5 a6 a7 a8
  have kf := fun q => kf q ad H locs ls cells slots a1 a2 a3 a4 a5 a6 a7 a8
  match b, h, kt, kf with
  | 0, h, kt, kf => exact lv_icmp_eq S.1 S.2.1 h (mOff pc tgt) kt kf
  | 1, h, kt, kf => exact lv_icmp_ne S.1 S.2.1 h (mOff pc tgt) kt (fun q => kf (fun z => z q))
  | 2, h, kt, kf => exact lv_icmp_lt S.1 S.2.1 h (mOff pc tgt) kt kf
  | 3, h, kt, kf => exact lv_icmp_ge S.1 S.2.1 h (mOff pc tgt) kt kf
  | 4, h, kt, kf => exact lv_icmp_gt S.1 S.2.1 h (mOff pc tgt) kt kf
  | n + 5, h, kt, kf => exact lv_icmp_le S.1 S.2.1 h (mOff pc tgt) kt kf
theorem sd_19 (S : CallFix p m c cc nL s args (mWS j) own) {b tgt : Nat} {x : Int32} (hck : mK3 cc pc len (mIf b ((tgt : Int) - (pc : Int))) = true) (kt : mCmp b x 0 → mG p l e R s m args below meth c D ta A ad0 n0 s0 nL Q tgt L st σ) (kf : ¬ mCmp b x 0 → mG p l e R s m args below meth c D ta A ad0 n0 s0 nL Q (pc + len) L st σ) : mG p l e R s m args below meth c D ta A ad0 n0 s0 nL Q pc L (.int x :: st) σ := by
  simp only [mK3, Bool.and_eq_true, beq_iff_eq] at hck
  obtain ⟨rfl, h⟩ := hck
  have h := mDc_ok h
  intro ad H locs ls cells slots a1 a2 a3 a4 a5 a6 a7 a8
  have kt := fun q => kt q ad H locs ls cells slots a1 a2 a3 a4 a5 a6 a7 a8
  have kf := fun q => kf q ad H locs ls cells slots a1 a2 a3 a4 a5 a6 a7 a8
  match b, h, kt, kf with
  | 0, h, kt, kf => exact lv_if_eq S.1 S.2.1 h (mOff pc tgt) kt kf
  | 1, h, kt, kf => exact lv_if_ne S.1 S.2.1 h (mOff pc tgt) kt (fun q => kf (fun z => z q))
  | 2, h, kt, kf => exact lv_if_lt S.1 S.2.1 h (mOff pc tgt) kt kf
  | 3, h, kt, kf => exact lv_if_ge S.1 S.2.1 h (mOff pc tgt) kt kf
  | 4, h, kt, kf => exact lv_if_gt S.1 S.2.1 h (mOff pc tgt) kt kf
  | n + 5, h, kt, kf => exact lv_if_le S.1 S.2.1 h (mOff pc tgt) kt kf
theorem sd_20 (S : CallFix p m c cc nL s args (mWS j) own) {tgt : Nat} (hck : mK3 cc pc len (.goto ((tgt : Int) - (pc : Int))) = true) (k : mG p l e R s m args below meth c D ta A ad0 n0 s0 nL Q tgt L st σ) : mG p l e R s m args below meth c D ta A ad0 n0 s0 nL Q pc L st σ := by
  simp only [mK3, Bool.and_eq_true, beq_iff_eq] at hck
  obtain ⟨rfl, h⟩ := hck
  intro ad H locs ls cells slots a1 a2 a3 a4 a5 a6 a7 a8
  exact lv_goto S.1 S.2.1 (mDc_ok h) (mOff pc tgt) (k ad H locs ls cells slots a1 a2 a3 a4 a5 a6 a7 a8)
def mK22 (cc : ByteArray) (pc len : Nat) (lo : Int) (d : Int) (ts : List Int) : Bool := !ts.isEmpty && mDc cc pc (.tableswitch (d - (pc : Int)) lo (lo + (ts.length : Int) - 1) (ts.map (fun t => t - (pc : Int))).toArray) len
theorem sd_22 (S : CallFix p m c cc nL s args (mWS j) own) {d : Nat} {ts : List Nat} {x lo : Int32} (hck : mK22 cc pc len lo.toInt (d : Int) (ts.map (fun t : Nat => (t : Int))) = true) (kd : (x.toInt < lo.toInt ∨ lo.toInt + ts.length ≤ x.toInt) → mG p l e R s m args below meth c D ta A ad0 n0 s0 nL Q d L st σ) (kt : ∀ q t : Nat, ts[q]? = some t → x.toInt = lo.toInt + q → mG p l e R s m args below meth c D ta A ad0 n0 s0 nL Q t L st σ) : mG p l e R s m args below meth c D ta A ad0 n0 s0 nL Q pc L (.int x :: st) σ := by
  simp only [mK22, Bool.and_eq_true, Bool.not_eq_true', List.length_map, List.map_map] at hck
  have h := mDc_ok hck.2
  intro ad H locs ls cells slots a1 a2 a3 a4 a5 a6 a7 a8
  by_cases h1 : x.toInt < lo.toInt ∨ lo.toInt + (ts.length : Int) ≤ x.toInt
  · exact lv_tableOut S.1 S.2.1 h (by omega) (mOff pc d) (kd h1 ad H locs ls cells slots a1 a2 a3 a4 a5 a6 a7 a8)
  · have hq : (x.toInt - lo.toInt).toNat < ts.length := by omega
    obtain ⟨t, ht⟩ : ∃ t, ts[(x.toInt - lo.toInt).toNat]? = some t := ⟨_, List.getElem?_eq_getElem hq⟩
    exact lv_tableIn S.1 S.2.1 (off := (t : Int) - (pc : Int)) h (by omega) (by omega) (by rw [List.getElem?_toArray, List.getElem?_map, ht]; rfl) (mOff pc t) (kt _ t ht (by omega) ad H locs ls cells slots a1 a2 a3 a4 a5 a6 a7 a8)
def mLkp (bp : Nat → Nat) (c pc : Int) : List Nat → List (Int × Int)
  | v :: b :: r => (c + (v : Int), (bp b : Int) - pc) :: mLkp bp c pc r
  | _ => []
theorem mLkp_off (bp : Nat → Nat) (c x : Int32) (pc : Int) (d : Nat) : ∀ (n : Nat) (ps : List Nat), ps.length ≤ n → Op.lookupswitch.offset (mLkp bp c.toInt pc ps) ((bp d : Int) - pc) x.toInt = (bp (mLk c x ps d) : Int) - pc
  | _, [], _ => rfl
  | _, [_], _ => rfl
  | 0, _ :: _ :: _, h => by simp at h
  | n + 1, v :: b :: r, h => by
    have ih := mLkp_off bp c x pc d n r (by simp at h; omega)
    show (if c.toInt + (v : Int) = x.toInt then (bp b : Int) - pc else Op.lookupswitch.offset (mLkp bp c.toInt pc r) ((bp d : Int) - pc) x.toInt) = (bp (if c.toInt + (v : Int) = x.toInt then b else mLk c x r d) : Int) - pc
    rw [ih]
    split <;> rfl
def mK23 (cc : ByteArray) (bp : Nat → Nat) (pc len : Nat) (c : Int) (d : Nat) (ps : List Nat) : Bool := mDc cc pc (.lookupswitch ((bp d : Int) - (pc : Int)) (mLkp bp c (pc : Int) ps).toArray) len && ((mLkp bp c (pc : Int) ps).zip ((mLkp bp c (pc : Int) ps).drop 1)).all (fun (a, next) => decide (a.1 < next.1))
theorem sd_23 (S : CallFix p m c cc nL s args (mWS j) own) {bp : Nat → Nat} {d : Nat} {ps : List Nat} {x v : Int32} (hck : mK23 cc bp pc len v.toInt d ps = true) (k : mG p l e R s m args below meth c D ta A ad0 n0 s0 nL Q (bp (mLk v x ps d)) L st σ) : mG p l e R s m args below meth c D ta A ad0 n0 s0 nL Q pc L (.int x :: st) σ := by
  simp only [mK23, Bool.and_eq_true] at hck
  intro ad H locs ls cells slots a1 a2 a3 a4 a5 a6 a7 a8
  exact lv_lookup S.1 S.2.1 (mDc_ok hck.1) hck.2 (mLkp_off bp v x pc d _ ps (Nat.le_refl _)) (mOff pc _) (k ad H locs ls cells slots a1 a2 a3 a4 a5 a6 a7 a8)
theorem mC_of {ci : Nat} {q : vw_C} (hc : ci < 11) (h : mCL[ci]? = some q) : mCok ci q := by
  obtain ⟨q', h1, h2⟩ := mC_ok ci hc
  rw [h1] at h
  cases h
  exact h2
theorem mFv_cv (ad : Nat → Nat) (σ : mMH) (o k : Nat) : ∀ t, mCv ad (mFv σ o k t) = mFld ad (σ.2.2.1 o) (σ.2.2.2.1 o) (σ.2.2.2.2 o) t k
  | 0 => rfl
  | 1 => rfl
  | 2 => rfl
  | 3 => rfl
  | 4 => mCv_rf _ _
  | _ + 5 => rfl
theorem mEnc_obj {ad : Nat → Nat} {ci n : Nat} {ro : Nat → Option Nat} {vo : Nat → Int32} {wo : Nat → Int64} (h : ci < 11) : mEnc ta ad (ci, n) ro vo wo = .inr (ci, mFs ad ci ro vo wo) := if_pos (show ci < 20 by omega)
theorem mFs_at {ad : Nat → Nat} {ci k t : Nat} {ro : Nat → Option Nat} {vo : Nat → Int32} {wo : Nat → Int64} (h : (mFt.getD ci [])[k]? = some t) : (mFs ad ci ro vo wo)[k]? = some (mFld ad ro vo wo t k) := by
  have hl : k < (mFt.getD ci []).length := (List.getElem?_eq_some_iff.mp h).1
  unfold mFs
  rw [List.getElem?_map, List.getElem?_range hl, Option.map_some, List.getD_eq_getElem?_getD, h]
  rfl
def mKf (x ci k t idx q : Nat) (fin : Nat) : Bool := decide ((mFt.getD ci [])[k]? = some t) && decide (mLF q = some (x, idx, ci, k, fin))
theorem mKf_ok {x ci k t idx q fin : Nat} (h : mKf x ci k t idx q fin = true) : ci < 11 ∧ (mFt.getD ci [])[k]? = some t ∧ ∃ r, mCL[ci]? = some r ∧ Cond.fieldLink (mOwn x) idx r.1 (r.2.1 k).2.1 (r.2.1 k).2.2.1 ∈ mWT ∧ (r.2.1 k).1 = r.1 ∧ (r.2.1 k).2.2.2 = decide (fin = 1) := by
  simp only [mKf, Bool.and_eq_true, decide_eq_true_eq] at h
  obtain ⟨h1, h2⟩ := h
  have h3 := mLF_ok h2
  exact ⟨h3.1, h1, h3.2⟩
def mK24 (x : Nat) (cc : ByteArray) (pc len ci k t : Nat) (ps : List Nat) : Bool := len == 3 && (match ps with
  | idx :: q :: _ => mDc cc pc (.getfield idx) 3 && (mKf x ci k t idx q 0 || mKf x ci k t idx q 1)
  | _ => false)
theorem sd_24 {x : Nat} (S : CallFix p m c cc nL s args (mWS j) (mOwn x)) (hK : va_K D mCL (mTYs ta) s) {ci k t o : Nat} {ps : List Nat} (hck : mK24 x cc pc len ci k t ps = true) (ho : σ.2.1[o]? = some (ci, 0)) (kk : mG p l e R s m args below meth c D ta A ad0 n0 s0 nL Q (pc + len) L (mFv σ o k t :: st) σ) : mG p l e R s m args below meth c D ta A ad0 n0 s0 nL Q pc L (.ref o :: st) σ := by
  simp only [mK24, Bool.and_eq_true, beq_iff_eq] at hck
  obtain ⟨rfl, h⟩ := hck
  split at h
  · rename_i idx q rest
    rw [Bool.and_eq_true, Bool.or_eq_true] at h
    obtain ⟨h1, h2⟩ := h
    obtain ⟨hc, ht, r, hr, hw, hsm, -⟩ : ci < 11 ∧ (mFt.getD ci [])[k]? = some t ∧ ∃ r, mCL[ci]? = some r ∧ Cond.fieldLink (mOwn x) idx r.1 (r.2.1 k).2.1 (r.2.1 k).2.2.1 ∈ mWT ∧ (r.2.1 k).1 = r.1 ∧ True := by
      rcases h2 with h2 | h2 <;> obtain ⟨e1, e2, r, e3, e4, e5, e6⟩ := mKf_ok h2 <;> exact ⟨e1, e2, r, e3, e4, e5, trivial⟩
    obtain ⟨g1, g2, g3, g4, g5, g6⟩ := mC_of hc hr
    have hk : k < r.2.2 := g4 ▸ (List.getElem?_eq_some_iff.mp ht).1
    intro ad H locs ls cells slots a1 a2 a3 a4 a5 a6 a7 a8
    have k1 := kk ad H locs ls cells slots a1 a2 a3 a4 a5 a6 a7 a8
    rw [List.map_cons, mFv_cv] at k1
    exact va_get (C := r.1) (T := r.2.1) (N := r.2.2) S.1 S.2.1 S.2.2.2.2 (fun w hw => List.mem_cons_of_mem _ (g1 w hw)) S.2.2.2.1 hK a4 o (by rw [mWs_get ho, mEnc_obj hc]) hr k hk (S.2.2.2.2 _ (List.mem_cons_of_mem _ hw)) (by rw [hsm]; exact fun x hx => hx) (mFs_at ht) (mDc_ok h1) k1
  · cases h
theorem mFs_len {ad : Nat → Nat} {ci : Nat} {ro : Nat → Option Nat} {vo : Nat → Int32} {wo : Nat → Int64} : (mFs ad ci ro vo wo).length = (mFt.getD ci []).length := by
  unfold mFs
  rw [List.length_map, List.length_range]
theorem mFld_off {ad : Nat → Nat} {ro ro' : Nat → Option Nat} {vo vo' : Nat → Int32} {wo wo' : Nat → Int64} {k : Nat} (h1 : ro' k = ro k) (h2 : vo' k = vo k) (h3 : wo' k = wo k) (t : Nat) : mFld ad ro' vo' wo' t k = mFld ad ro vo wo t k := by
  unfold mFld
  rw [h1, h2, h3]
theorem mFs_set {ad : Nat → Nat} {ci k t : Nat} {ro ro' : Nat → Option Nat} {vo vo' : Nat → Int32} {wo wo' : Nat → Int64} (ht : (mFt.getD ci [])[k]? = some t) (h1 : ∀ i, i ≠ k → ro' i = ro i) (h2 : ∀ i, i ≠ k → vo' i = vo i) (h3 : ∀ i, i ≠ k → wo' i = wo i) : mFs ad ci ro' vo' wo' = (mFs ad ci ro vo wo).set k (mFld ad ro' vo' wo' t k) := by
  have hl : k < (mFt.getD ci []).length := (List.getElem?_eq_some_iff.mp ht).1
  apply List.ext_getElem?
  intro i
  by_cases hi : i = k
  · subst hi
    rw [List.getElem?_set_self (by unfold mFs; simpa using hl), mFs_at ht]
  · rw [List.getElem?_set_ne (Ne.symm hi)]
    unfold mFs
    by_cases hil : i < (mFt.getD ci []).length
    · simp only [List.getElem?_map, List.getElem?_range hil, Option.map_some, mFld_off (h1 i hi) (h2 i hi) (h3 i hi)]
    · rw [List.getElem?_eq_none (by simpa using hil), List.getElem?_eq_none (by simpa using hil)]
theorem mRefT_ok {ty : FieldType} (h : mRefT ty = true) (x : Option Nat) : narrow ty (va_rf x) = va_rf x ∧ fits ty (va_rf x) = true := by
  cases ty <;> first | (cases h; done) | (cases x <;> exact ⟨rfl, rfl⟩)
def mK25 (x : Nat) (ini : Bool) (cc : ByteArray) (pc len ci k t : Nat) (ps : List Nat) : Bool := len == 3 && (match ps with
  | 0 :: idx :: q :: _ => mDc cc pc (.putfield idx) 3 && mKf x ci k t idx q 0
  | _ :: idx :: q :: _ => mDc cc pc (.putfield idx) 3 && (mKf x ci k t idx q 1 && (ini && decide (ci = x)))
  | _ => false)
theorem mOwn_CL {x : Nat} {r : vw_C} (hx : x < 11) (h : mCL[x]? = some r) : r.1 = mOwn x := by
  rcases (show x = 0 ∨ x = 1 ∨ x = 2 ∨ x = 3 ∨ x = 4 ∨ x = 5 ∨ x = 6 ∨ x = 7 ∨ x = 8 ∨ x = 9 ∨ x = 10 by omega) with rfl | rfl | rfl | rfl | rfl | rfl | rfl | rfl | rfl | rfl | rfl <;> (cases h; rfl)
/-- a field, put: the heap's other cells stay -/
theorem sd_25v {x : Nat} (S : CallFix p m c cc nL s args (mWS j) (mOwn x)) (hK : va_K D mCL (mTYs ta) s) {ini : Bool} (hini : ini = true → meth.name = "<init>") {ci k t o : Nat} {ps : List Nat} (hck : mK25 x ini cc pc len ci k t ps = true) (ho : σ.2.1[o]? = some (ci, 0)) {σ' : mMH} {v : Value}
    (e0 : σ'.1 = σ.1) (e1 : σ'.2.1 = σ.2.1) (o1 : ∀ q, q ≠ o → σ'.2.2.1 q = σ.2.2.1 q) (o2 : ∀ q, q ≠ o → σ'.2.2.2.1 q = σ.2.2.2.1 q) (o3 : ∀ q, q ≠ o → σ'.2.2.2.2 q = σ.2.2.2.2 q) (h1 : ∀ i, i ≠ k → σ'.2.2.1 o i = σ.2.2.1 o i) (h2 : ∀ i, i ≠ k → σ'.2.2.2.1 o i = σ.2.2.2.1 o i) (h3 : ∀ i, i ≠ k → σ'.2.2.2.2 o i = σ.2.2.2.2 o i)
    (hv : ∀ ad : Nat → Nat, mCv ad v = mFld ad (σ'.2.2.1 o) (σ'.2.2.2.1 o) (σ'.2.2.2.2 o) t k) (hn : ci < 11 → (mFt.getD ci [])[k]? = some t → ∀ ad : Nat → Nat, narrow (mTF ci k) (mCv ad v) = mCv ad v ∧ fits (mTF ci k) (mCv ad v) = true) (kk : mG p l e R s m args below meth c D ta A ad0 n0 s0 nL Q (pc + len) L st σ') : mG p l e R s m args below meth c D ta A ad0 n0 s0 nL Q pc L (v :: .ref o :: st) σ := by
  simp only [mK25, Bool.and_eq_true, beq_iff_eq] at hck
  obtain ⟨rfl, h⟩ := hck
  have ends : ∀ (ad : Nat → Nat) (H : Heap) (locs : List Loc) (ls : Array Slot) (cells slots : Nat), ci < 11 → (mFt.getD ci [])[k]? = some t → mAgr ad0 ad n0 σ.2.1.length → cells + n0 = σ.2.1.length → slots + s0 = σ.1 → L.length = nL → lv_has ls nL (mLp ad L) →
      ∀ (H1 : Heap) (locs1 : List Loc), va_P D mCL ((mWs ta ad σ).set o (ad o, .inr (ci, (mFs ad ci (σ.2.2.1 o) (σ.2.2.2.1 o) (σ.2.2.2.2 o)).set k (mCv ad v)))) H1 → va_D A ((mWs ta ad σ).set o (ad o, .inr (ci, (mFs ad ci (σ.2.2.1 o) (σ.2.2.2.1 o) (σ.2.2.2.2 o)).set k (mCv ad v)))) → va_S A s.heap H1 locs1 → W p l e R s m args below meth c H1 locs1 cells slots Q (F0 m (pc + 3) ls (st.map (mCv ad))) := by
    intro ad H locs ls cells slots hc ht a1 a2 a3 a7 a8 H1 locs1 b1 b2 b3
    have e : mWs ta ad σ' = (mWs ta ad σ).set o (ad o, .inr (ci, (mFs ad ci (σ.2.2.1 o) (σ.2.2.2.1 o) (σ.2.2.2.2 o)).set k (mCv ad v))) := by
      rw [mWs_set ho e1 o1 o2 o3, mEnc_obj hc, mFs_set ht h1 h2 h3, hv]
    rw [← e] at b1 b2
    exact kk ad H1 locs1 ls cells slots (by rw [e1]; exact a1) (by rw [e1]; exact a2) (by rw [e0]; exact a3) b1 b2 b3 a7 a8
  split at h
  · rename_i idx q rest
    rw [Bool.and_eq_true] at h
    obtain ⟨h4, h5⟩ := h
    obtain ⟨hc, ht, r, hr, hw, hsm, hf⟩ := mKf_ok h5
    obtain ⟨g1, g2, g3, g4, g5, g6⟩ := mC_of hc hr
    have hk : k < r.2.2 := g4 ▸ (List.getElem?_eq_some_iff.mp ht).1
    intro ad H locs ls cells slots a1 a2 a3 a4 a5 a6 a7 a8
    obtain ⟨n1, n2⟩ := hn hc ht ad
    exact va_put (C := r.1) (T := r.2.1) (N := r.2.2) S.1 S.2.1 S.2.2.2.2 (fun w hw => List.mem_cons_of_mem _ (g1 w hw)) (mTF ci) g2 g3 S.2.2.2.1 hK a4 a5 a6 o (by rw [mWs_get ho, mEnc_obj hc]) hr k hk (S.2.2.2.2 _ (List.mem_cons_of_mem _ hw)) (by rw [hsm]; exact fun x hx => hx) hf (g2 k hk) n1 n2 (by rw [mFs_len, g4]; exact hk) (mDc_ok h4) (ends ad H locs ls cells slots hc ht a1 a2 a3 a7 a8)
  · rename_i idx q rest hne
    simp only [Bool.and_eq_true] at h
    obtain ⟨h4, h5, h6, h7⟩ := h
    obtain ⟨hc, ht, r, hr, hw, hsm, hf⟩ := mKf_ok h5
    have h7 : r.1 = mOwn x := by
      have e := of_decide_eq_true h7
      subst e
      exact mOwn_CL hc hr
    obtain ⟨g1, g2, g3, g4, g5, g6⟩ := mC_of hc hr
    have hk : k < r.2.2 := g4 ▸ (List.getElem?_eq_some_iff.mp ht).1
    intro ad H locs ls cells slots a1 a2 a3 a4 a5 a6 a7 a8
    obtain ⟨n1, n2⟩ := hn hc ht ad
    exact va_putF (C := r.1) (T := r.2.1) (N := r.2.2) S.1 S.2.1 S.2.2.2.2 (fun w hw => List.mem_cons_of_mem _ (g1 w hw)) (mTF ci) g2 g3 S.2.2.2.1 hK a4 a5 a6 o (by rw [mWs_get ho, mEnc_obj hc]) hr k hk (S.2.2.2.2 _ (List.mem_cons_of_mem _ hw)) (by rw [hsm]; exact fun x hx => hx) hf (hini h6) (hsm.trans h7) (g2 k hk) n1 n2 (by rw [mFs_len, g4]; exact hk) (mDc_ok h4) (ends ad H locs ls cells slots hc ht a1 a2 a3 a7 a8)
  · cases h
theorem mup_ne {α : Type} {f : Nat → α} {k i : Nat} {v : α} (h : i ≠ k) : va_up f k v i = f i := if_neg h
theorem mup_eq {α : Type} {f : Nat → α} {k : Nat} {v : α} : va_up f k v k = v := if_pos rfl
theorem sd_25 {x : Nat} (S : CallFix p m c cc nL s args (mWS j) (mOwn x)) (hK : va_K D mCL (mTYs ta) s) {ini : Bool} (hini : ini = true → meth.name = "<init>") {ci k t o : Nat} {ps : List Nat} (hck : mK25 x ini cc pc len ci k t ps = true) (ho : σ.2.1[o]? = some (ci, 0)) {v : Value} (h : mPut (fun σ' => mG p l e R s m args below meth c D ta A ad0 n0 s0 nL Q (pc + len) L st σ') σ o k t v) : mG p l e R s m args below meth c D ta A ad0 n0 s0 nL Q pc L (v :: .ref o :: st) σ := by
  match t, hck, h with
  | 4, hck, h =>
    obtain ⟨q, rfl, kk⟩ := h
    refine sd_25v S hK hini hck ho (σ' := mPr σ o k q) rfl rfl (fun _ h => mup_ne h) (fun _ _ => rfl) (fun _ _ => rfl) (fun i h => ?_) (fun _ _ => rfl) (fun _ _ => rfl) (fun ad => ?_) (fun hc ht ad => ?_) kk
    · show va_up σ.2.2.1 o (va_up (σ.2.2.1 o) k q) o i = _
      rw [mup_eq, mup_ne h]
    · show mCv ad (va_rf q) = va_rf (((va_up σ.2.2.1 o (va_up (σ.2.2.1 o) k q)) o k).map ad)
      rw [mup_eq, mup_eq, mCv_rf]
    · rw [mCv_rf]
      exact mRefT_ok (mFt_at hc ht) _
  | 3, hck, h =>
    obtain ⟨x, rfl, kk⟩ := h
    refine sd_25v S hK hini hck ho (σ' := mPw σ o k x) rfl rfl (fun _ _ => rfl) (fun _ _ => rfl) (fun _ h => mup_ne h) (fun _ _ => rfl) (fun _ _ => rfl) (fun i h => ?_) (fun ad => ?_) (fun hc ht ad => ?_) kk
    · show va_up σ.2.2.2.2 o (vp_updL (σ.2.2.2.2 o) k x) o i = _
      rw [mup_eq]
      exact if_neg h
    · show Value.long x = .long ((va_up σ.2.2.2.2 o (vp_updL (σ.2.2.2.2 o) k x)) o k)
      rw [mup_eq, vp_updL, if_pos rfl]
    · have e := of_decide_eq_true (mFt_at hc ht)
      rw [e]
      exact ⟨rfl, rfl⟩
  | 1, hck, h =>
    obtain ⟨x, rfl, hx, kk⟩ := h
    refine sd_25v S hK hini hck ho (σ' := mPv σ o k x) rfl rfl (fun _ _ => rfl) (fun _ h => mup_ne h) (fun _ _ => rfl) (fun _ _ => rfl) (fun i h => ?_) (fun _ _ => rfl) (fun ad => ?_) (fun hc ht ad => ?_) kk
    · show va_up σ.2.2.2.1 o (upd (σ.2.2.2.1 o) k x) o i = _
      rw [mup_eq]
      exact if_neg h
    · show Value.int x = .int ((va_up σ.2.2.2.1 o (upd (σ.2.2.2.1 o) k x)) o k)
      rw [mup_eq, upd, if_pos rfl]
    · have e := of_decide_eq_true (mFt_at hc ht)
      rw [e]
      rcases hx with rfl | rfl <;> exact ⟨rfl, rfl⟩
  | 0, hck, h =>
    obtain ⟨x, rfl, kk⟩ := h
    refine sd_25v S hK hini hck ho (σ' := mPv σ o k x) rfl rfl (fun _ _ => rfl) (fun _ h => mup_ne h) (fun _ _ => rfl) (fun _ _ => rfl) (fun i h => ?_) (fun _ _ => rfl) (fun ad => ?_) (fun hc ht ad => ?_) kk
    · show va_up σ.2.2.2.1 o (upd (σ.2.2.2.1 o) k x) o i = _
      rw [mup_eq]
      exact if_neg h
    · show Value.int x = .int ((va_up σ.2.2.2.1 o (upd (σ.2.2.2.1 o) k x)) o k)
      rw [mup_eq, upd, if_pos rfl]
    · have e := of_decide_eq_true (mFt_at hc ht)
      rw [e]
      exact ⟨rfl, rfl⟩
  | 2, hck, h =>
    obtain ⟨x, rfl, kk⟩ := h
    refine sd_25v S hK hini hck ho (σ' := mPv σ o k x) rfl rfl (fun _ _ => rfl) (fun _ h => mup_ne h) (fun _ _ => rfl) (fun _ _ => rfl) (fun i h => ?_) (fun _ _ => rfl) (fun ad => ?_) (fun hc ht ad => ?_) kk
    · show va_up σ.2.2.2.1 o (upd (σ.2.2.2.1 o) k x) o i = _
      rw [mup_eq]
      exact if_neg h
    · show Value.int x = .int ((va_up σ.2.2.2.1 o (upd (σ.2.2.2.1 o) k x)) o k)
      rw [mup_eq, upd, if_pos rfl]
    · have e := mFt_at hc ht
      cases e
  | n + 5, hck, h =>
    obtain ⟨x, rfl, kk⟩ := h
    refine sd_25v S hK hini hck ho (σ' := mPv σ o k x) rfl rfl (fun _ _ => rfl) (fun _ h => mup_ne h) (fun _ _ => rfl) (fun _ _ => rfl) (fun i h => ?_) (fun _ _ => rfl) (fun ad => ?_) (fun hc ht ad => ?_) kk
    · show va_up σ.2.2.2.1 o (upd (σ.2.2.2.1 o) k x) o i = _
      rw [mup_eq]
      exact if_neg h
    · show Value.int x = .int ((va_up σ.2.2.2.1 o (upd (σ.2.2.2.1 o) k x)) o k)
      rw [mup_eq, upd, if_pos rfl]
    · have e := mFt_at hc ht
      cases e
/-! rows -/
theorem mTY_at {t : Nat} (h : t < 7) : (mTYs ta)[t]? = some (ta t, mTy (20 + t)) := by
  unfold mTYs
  rw [List.getElem?_map, List.getElem?_range h]
  rfl
theorem mEnc_row {ad : Nat → Nat} {t n : Nat} {ro : Nat → Option Nat} {vo : Nat → Int32} {wo : Nat → Int64} (h : t < 3) : mEnc ta ad (20 + t, n) ro vo wo = .inl (ta t, n, .inl vo) := by
  unfold mEnc
  dsimp only
  rw [if_neg (by omega), if_pos (by omega), Nat.add_sub_cancel_left]
theorem mEnc_rowL {ad : Nat → Nat} {n : Nat} {ro : Nat → Option Nat} {vo : Nat → Int32} {wo : Nat → Int64} : mEnc ta ad (23, n) ro vo wo = .inl (ta 3, n, .inr (.inl wo)) := rfl
theorem mEnc_rowR {ad : Nat → Nat} {t n : Nat} {ro : Nat → Option Nat} {vo : Nat → Int32} {wo : Nat → Int64} (h : 4 ≤ t) : mEnc ta ad (20 + t, n) ro vo wo = .inl (ta t, n, .inr (.inr (.inr (.inr (fun k => (ro k).map ad))))) := by
  unfold mEnc
  dsimp only
  rw [if_neg (by omega), if_neg (by omega), if_neg (by omega), Nat.add_sub_cancel_left]
def mIal (t : Nat) : Instr := match t with
  | 0 => .iaload
  | 1 => .baload
  | 3 => .laload
  | _ => .aaload
def mIas (t : Nat) : Instr := match t with
  | 0 => .iastore
  | 1 => .bastore
  | 3 => .lastore
  | _ => .aastore
theorem mAv_cv (ad : Nat → Nat) (σ : mMH) (o k : Nat) : ∀ t, mCv ad (mAv σ o k t) = mFld ad (σ.2.2.1 o) (σ.2.2.2.1 o) (σ.2.2.2.2 o) t k
  | 0 => rfl
  | 1 => rfl
  | 2 => rfl
  | 3 => rfl
  | 4 => mCv_rf _ _
  | _ + 5 => rfl
def mK26 (cc : ByteArray) (pc len t : Nat) : Bool := len == 1 && (decide (t = 0 ∨ t = 1 ∨ t = 3 ∨ t = 4) && mDc cc pc (mIal t) 1)
theorem sd_26 (S : CallFix p m c cc nL s args (mWS j) own) (hK : va_K D mCL (mTYs ta) s) {t o kd n : Nat} {i : Int32} (hck : mK26 cc pc len t = true) (ho : σ.2.1[o]? = some (kd, n)) (hk : mAk t kd) (hi : vp_in i n) (kk : mG p l e R s m args below meth c D ta A ad0 n0 s0 nL Q (pc + len) L (mAv σ o i.toNatClampNeg t :: st) σ) : mG p l e R s m args below meth c D ta A ad0 n0 s0 nL Q pc L (.int i :: .ref o :: st) σ := by
  simp only [mK26, Bool.and_eq_true, beq_iff_eq, decide_eq_true_eq] at hck
  obtain ⟨rfl, ht, h⟩ := hck
  have h := mDc_ok h
  intro ad H locs ls cells slots a1 a2 a3 a4 a5 a6 a7 a8
  have k1 := kk ad H locs ls cells slots a1 a2 a3 a4 a5 a6 a7 a8
  rw [List.map_cons, mAv_cv] at k1
  rcases ht with rfl | rfl | rfl | rfl
  · have hk : kd = 20 + 0 := hk
    subst hk
    exact va_iald S.1 S.2.1 hK a4 o 0 (by rw [mWs_get ho, mEnc_row (by omega)]) (mTY_at (by omega)) hi h k1
  · have hk : kd = 20 + 1 ∨ kd = 20 + 2 := hk
    rcases hk with rfl | rfl
    · exact va_bald S.1 S.2.1 hK a4 o 1 (by rw [mWs_get ho, mEnc_row (by omega)]) (mTY_at (by omega)) hi h k1
    · exact va_zald S.1 S.2.1 hK a4 o 2 (by rw [mWs_get ho, mEnc_row (by omega)]) (mTY_at (by omega)) hi h k1
  · have hk : kd = 23 := hk
    subst hk
    exact va_lald S.1 S.2.1 hK a4 o 3 (by rw [mWs_get ho, mEnc_rowL]) (mTY_at (by omega)) hi h k1
  · have hk : kd = 20 + 4 ∨ kd = 20 + 5 ∨ kd = 20 + 6 := hk
    rcases hk with rfl | rfl | rfl
    · exact va_aldq (f := fun k => (σ.2.2.1 o k).map ad) S.1 S.2.1 hK a4 o 4 (by rw [mWs_get ho, mEnc_rowR (by omega)]) (mTY_at (by omega)) hi h k1
    · exact va_aldq (f := fun k => (σ.2.2.1 o k).map ad) S.1 S.2.1 hK a4 o 5 (by rw [mWs_get ho, mEnc_rowR (by omega)]) (mTY_at (by omega)) hi h k1
    · exact va_aldq (f := fun k => (σ.2.2.1 o k).map ad) S.1 S.2.1 hK a4 o 6 (by rw [mWs_get ho, mEnc_rowR (by omega)]) (mTY_at (by omega)) hi h k1
theorem mWs_row {ad : Nat → Nat} {o kd n : Nat} {g : Nat → Int32} (ho : σ.2.1[o]? = some (kd, n)) : mWs ta ad (mProw σ o g) = (mWs ta ad σ).set o (ad o, mEnc ta ad (kd, n) (σ.2.2.1 o) g (σ.2.2.2.2 o)) := by
  rw [mWs_set (σ' := mProw σ o g) ho rfl (fun _ _ => rfl) (fun _ h => mup_ne h) (fun _ _ => rfl)]
  show _ = _
  rw [show (mProw σ o g).2.2.2.1 o = g from mup_eq]
  rfl
def mK27 (cc : ByteArray) (pc len t : Nat) : Bool := len == 1 && mDc cc pc (mIas t) 1
theorem sd_27i (S : CallFix p m c cc nL s args (mWS j) own) (hK : va_K D mCL (mTYs ta) s) {t o kd n : Nat} {i x : Int32} (hck : mK27 cc pc len t = true) (ho : σ.2.1[o]? = some (kd, n)) (ht : t < 2) (hk : mAk t kd) (hi : vp_in i n) (kk : mG p l e R s m args below meth c D ta A ad0 n0 s0 nL Q (pc + len) L st (mPv σ o i.toNatClampNeg (mNr kd x))) : mG p l e R s m args below meth c D ta A ad0 n0 s0 nL Q pc L (.int x :: .int i :: .ref o :: st) σ := by
  simp only [mK27, Bool.and_eq_true, beq_iff_eq] at hck
  obtain ⟨rfl, h⟩ := hck
  have h := mDc_ok h
  intro ad H locs ls cells slots a1 a2 a3 a4 a5 a6 a7 a8
  have fin : ∀ (H1 : Heap) (locs1 : List Loc), va_P D mCL ((mWs ta ad σ).set o (ad o, mEnc ta ad (kd, n) (σ.2.2.1 o) (upd (σ.2.2.2.1 o) i.toNatClampNeg (mNr kd x)) (σ.2.2.2.2 o))) H1 → va_D A ((mWs ta ad σ).set o (ad o, mEnc ta ad (kd, n) (σ.2.2.1 o) (upd (σ.2.2.2.1 o) i.toNatClampNeg (mNr kd x)) (σ.2.2.2.2 o))) → va_S A s.heap H1 locs1 → W p l e R s m args below meth c H1 locs1 cells slots Q (F0 m (pc + 1) ls (st.map (mCv ad))) := by
    intro H1 locs1 b1 b2 b3
    rw [← mWs_row ho] at b1 b2
    exact kk ad H1 locs1 ls cells slots a1 a2 a3 b1 b2 b3 a7 a8
  match t, ht, h, hk with
  | 0, ht, h, hk =>
    have hk : kd = 20 + 0 := hk
    subst hk
    exact va_iast S.1 S.2.1 hK a4 a5 a6 o 0 (by rw [mWs_get ho, mEnc_row (by omega)]) (mTY_at (by omega)) hi h (fun H1 locs1 b1 b2 b3 => fin H1 locs1 (by rw [mEnc_row (by omega)]; exact b1) (by rw [mEnc_row (by omega)]; exact b2) b3)
  | 1, ht, h, hk =>
    have hk : kd = 20 + 1 ∨ kd = 20 + 2 := hk
    rcases hk with rfl | rfl
    · exact va_bast S.1 S.2.1 hK a4 a5 a6 o 1 (by rw [mWs_get ho, mEnc_row (by omega)]) (mTY_at (by omega)) hi h (fun H1 locs1 b1 b2 b3 => fin H1 locs1 (by rw [mEnc_row (by omega)]; exact b1) (by rw [mEnc_row (by omega)]; exact b2) b3)
    · exact va_zast S.1 S.2.1 hK a4 a5 a6 o 2 (by rw [mWs_get ho, mEnc_row (by omega)]) (mTY_at (by omega)) hi h (fun H1 locs1 b1 b2 b3 => fin H1 locs1 (by rw [mEnc_row (by omega)]; exact b1) (by rw [mEnc_row (by omega)]; exact b2) b3)
theorem sd_27l (S : CallFix p m c cc nL s args (mWS j) own) (hK : va_K D mCL (mTYs ta) s) {o n : Nat} {i : Int32} {x : Int64} (hck : mK27 cc pc len 3 = true) (ho : σ.2.1[o]? = some (23, n)) (hi : vp_in i n) (kk : mG p l e R s m args below meth c D ta A ad0 n0 s0 nL Q (pc + len) L st (mPw σ o i.toNatClampNeg x)) : mG p l e R s m args below meth c D ta A ad0 n0 s0 nL Q pc L (.long x :: .int i :: .ref o :: st) σ := by
  simp only [mK27, Bool.and_eq_true, beq_iff_eq] at hck
  obtain ⟨rfl, h⟩ := hck
  have h := mDc_ok h
  intro ad H locs ls cells slots a1 a2 a3 a4 a5 a6 a7 a8
  have e : mWs ta ad (mPw σ o i.toNatClampNeg x) = (mWs ta ad σ).set o (ad o, .inl (ta 3, n, .inr (.inl (vp_updL (σ.2.2.2.2 o) i.toNatClampNeg x)))) := by
    rw [mWs_set (σ' := mPw σ o i.toNatClampNeg x) ho rfl (fun _ _ => rfl) (fun _ _ => rfl) (fun _ h => mup_ne h), mEnc_rowL, show (mPw σ o i.toNatClampNeg x).2.2.2.2 o = vp_updL (σ.2.2.2.2 o) i.toNatClampNeg x from mup_eq]
  exact va_last S.1 S.2.1 hK a4 a5 a6 o 3 (by rw [mWs_get ho, mEnc_rowL]) (mTY_at (by omega)) hi h (fun H1 locs1 b1 b2 b3 => kk ad H1 locs1 ls cells slots a1 a2 a3 (by rw [e]; exact b1) (by rw [e]; exact b2) b3 a7 a8)
theorem mEl_ok {t : Nat} (h4 : 4 ≤ t) (h7 : t < 7) : ∃ r, mCL[mEl (20 + t)]? = some r ∧ mTy (20 + t) = .object r.1 := by
  rcases (show t = 4 ∨ t = 5 ∨ t = 6 by omega) with rfl | rfl | rfl <;> exact ⟨_, rfl, rfl⟩
theorem mEl_lt (kd : Nat) : mEl kd < 11 := by
  unfold mEl
  split <;> omega
theorem sd_27r (S : CallFix p m c cc nL s args (mWS j) own) (hK : va_K D mCL (mTYs ta) s) {o kd n a : Nat} {i : Int32} (hck : mK27 cc pc len 4 = true) (ho : σ.2.1[o]? = some (kd, n)) (hk : mAk 4 kd) (ha : σ.2.1[a]? = some (mEl kd, 0)) (hi : vp_in i n) (kk : mG p l e R s m args below meth c D ta A ad0 n0 s0 nL Q (pc + len) L st (mPr σ o i.toNatClampNeg (some a))) : mG p l e R s m args below meth c D ta A ad0 n0 s0 nL Q pc L (.ref a :: .int i :: .ref o :: st) σ := by
  simp only [mK27, Bool.and_eq_true, beq_iff_eq] at hck
  obtain ⟨rfl, h⟩ := hck
  have h := mDc_ok h
  obtain ⟨t, h4, h7, rfl⟩ : ∃ t, 4 ≤ t ∧ t < 7 ∧ kd = 20 + t := by
    have hk : kd = 24 ∨ kd = 25 ∨ kd = 26 := hk
    exact ⟨kd - 20, by omega, by omega, by omega⟩
  obtain ⟨r, hr, hty⟩ := mEl_ok h4 h7
  intro ad H locs ls cells slots a1 a2 a3 a4 a5 a6 a7 a8
  have ef : (fun k => (va_up (σ.2.2.1 o) i.toNatClampNeg (some a) k).map ad) = va_up (fun k => (σ.2.2.1 o k).map ad) i.toNatClampNeg (some (ad a)) := by
    funext k
    by_cases hk : k = i.toNatClampNeg
    · rw [hk, mup_eq, mup_eq]; rfl
    · rw [mup_ne hk, mup_ne hk]
  have e : mWs ta ad (mPr σ o i.toNatClampNeg (some a)) = (mWs ta ad σ).set o (ad o, .inl (ta t, n, .inr (.inr (.inr (.inr (va_up (fun k => (σ.2.2.1 o k).map ad) i.toNatClampNeg (some (ad a)))))))) := by
    rw [mWs_set (σ' := mPr σ o i.toNatClampNeg (some a)) ho rfl (fun _ h => mup_ne h) (fun _ _ => rfl) (fun _ _ => rfl), mEnc_rowR h4, show (mPr σ o i.toNatClampNeg (some a)).2.2.1 o = va_up (σ.2.2.1 o) i.toNatClampNeg (some a) from mup_eq, ef]
  exact va_astq S.1 S.2.1 hK a4 a5 a6 o t a (mEl (20 + t)) (r := r) (by rw [mWs_get ho, mEnc_rowR h4]) (by rw [mTY_at h7, hty]) (by rw [mWs_get ha, mEnc_obj (mEl_lt _)]) hr hi h (fun H1 locs1 b1 b2 b3 => kk ad H1 locs1 ls cells slots a1 a2 a3 (by rw [e]; exact b1) (by rw [e]; exact b2) b3 a7 a8)
theorem sd_28 (S : CallFix p m c cc nL s args (mWS j) own) (hK : va_K D mCL (mTYs ta) s) {o kd n : Nat} (hck : mK1 cc pc len .arraylength = true) (ho : σ.2.1[o]? = some (kd, n)) (h1 : 20 ≤ kd) (h2 : kd ≤ 26) (kk : mG p l e R s m args below meth c D ta A ad0 n0 s0 nL Q (pc + len) L (.int (nI n) :: st) σ) : mG p l e R s m args below meth c D ta A ad0 n0 s0 nL Q pc L (.ref o :: st) σ := by
  simp only [mK1, Bool.and_eq_true, beq_iff_eq] at hck
  obtain ⟨rfl, h⟩ := hck
  have h := mDc_ok h
  intro ad H locs ls cells slots a1 a2 a3 a4 a5 a6 a7 a8
  obtain ⟨t, h7, rfl⟩ : ∃ t, t < 7 ∧ kd = 20 + t := ⟨kd - 20, by omega, by omega⟩
  have k1 := kk ad H locs ls cells slots a1 a2 a3 a4 a5 a6 a7 a8
  rcases Nat.lt_or_ge t 3 with h3 | h3
  · exact va_alen (x := (n, .inl (σ.2.2.2.1 o))) S.1 S.2.1 hK a4 o t (by rw [mWs_get ho, mEnc_row h3]) (mTY_at h7) rfl h k1
  · rcases Nat.eq_or_lt_of_le h3 with rfl | h4
    · exact va_alen (x := (n, .inr (.inl (σ.2.2.2.2 o)))) S.1 S.2.1 hK a4 o 3 (by rw [mWs_get ho, mEnc_rowL]) (mTY_at h7) rfl h k1
    · exact va_alen (x := (n, .inr (.inr (.inr (.inr (fun k => (σ.2.2.1 o k).map ad)))))) S.1 S.2.1 hK a4 o t (by rw [mWs_get ho, mEnc_rowR h4]) (mTY_at h7) rfl h k1
/-! what the JDK does for us -/
theorem mB_copy : mUin [464, 465, 16] [.static arraycopyName, .native arraycopyName, .initialized "java/lang/System"] = true := by decide +kernel
theorem mB_min : mUin [571, 18, 572] [.static Lib.Math.min.name, .initialized "java/lang/Math", .code Lib.Math.min.name Lib.Math.min.code 2 (some .int)] = true := by decide +kernel
theorem mB_obj : mUin [29, 30] [.instanceMethod Lib.objectInit, .code Lib.objectInit ⟨#[0xb1]⟩ 1 none] = true := by decide +kernel
theorem mSz_cv (ad : Nat → Nat) (st : List Value) : ((st.map (mCv ad)).map fun v => v.category).sum = mSz st := by
  unfold mSz
  rw [List.map_map]
  congr 1
  apply List.map_congr_left
  intro v _
  exact mCv_cat ad v
def mKb (x b : Nat) (cc : ByteArray) (pc len : Nat) (f : Nat → Instr) (ps : List Nat) : Bool := len == 3 && (match ps with
  | idx :: q :: _ => mDc cc pc (f idx) 3 && decide (mLX q = some (x, idx, b))
  | _ => false)
theorem sd_32 {x0 : Nat} (S : CallFix p m c cc nL s args (mWS j) (mOwn x0)) (hK : va_K D mCL (mTYs ta) s) (hRf : 1 ≤ R.frames) (hRl : 30 ≤ R.locals) {ps : List Nat} {n dp sp : Int32} {d0 s1 kd l0 l1 : Nat} (hck : mKb x0 0 cc pc len .invokestatic ps = true) (h0 : σ.2.1[s1]? = some (kd, l0)) (h1 : σ.2.1[d0]? = some (kd, l1)) (k1 : 20 ≤ kd) (k2 : kd ≤ 22) (b1 : ¬ sp < 0) (b2 : ¬ dp < 0) (b3 : ¬ n < 0) (b4 : sp.toNatClampNeg + n.toNatClampNeg ≤ l0) (b5 : dp.toNatClampNeg + n.toNatClampNeg ≤ l1) (b6 : ∀ i, i < n.toNatClampNeg → fits (mTy kd) (.int (σ.2.2.2.1 s1 (sp.toNatClampNeg + i))) = true) (b7 : mSz st ≤ 8)
    (kk : mG p l e R s m args below meth c D ta A ad0 n0 s0 nL Q (pc + len) L st (mProw σ d0 (va_cpy (σ.2.2.2.1 s1) (σ.2.2.2.1 d0) sp.toNatClampNeg dp.toNatClampNeg n.toNatClampNeg))) : mG p l e R s m args below meth c D ta A ad0 n0 s0 nL Q pc L (.int n :: .int dp :: .ref d0 :: .int sp :: .ref s1 :: st) σ := by
  simp only [mKb, Bool.and_eq_true, beq_iff_eq] at hck
  obtain ⟨rfl, h⟩ := hck
  split at h
  · rename_i idx q rest
    rw [Bool.and_eq_true] at h
    have hd := mDc_ok h.1
    have hw := S.2.2.2.2 _ (List.mem_cons_of_mem _ (mLX_ok (of_decide_eq_true h.2)))
    have hb := fun w hw => S.2.2.2.2 w (List.mem_cons_of_mem _ (mUin_ok mB_copy w hw))
    obtain ⟨t, h3, rfl⟩ : ∃ t, t < 3 ∧ kd = 20 + t := ⟨kd - 20, by omega, by omega⟩
    intro ad H locs ls cells slots a1 a2 a3 a4 a5 a6 a7 a8
    refine va_copyi (n0 := l0) (n1 := l1) (f := σ.2.2.2.1 s1) (g := σ.2.2.2.1 d0) (ty := mTy (20 + t)) (c0 := ta t) (c1 := ta t) (a0 := ad s1) S.1 S.2.1 (S.2.2.1.trans a8.1.symm) S.2.2.2.1 hw (hb _ (by simp)) (hb _ (by simp)) (hb _ (by simp)) hK a4 a5 a6 s1 d0 t t (by rw [mWs_get h0, mEnc_row h3]) (by rw [mWs_get h1, mEnc_row h3]) (mTY_at (by omega)) (mTY_at (by omega)) ?_ b1 b2 b3 b4 b5 b6 hRf ?_ hd (fun H1 locs1 e1 e2 e3 => ?_)
    · rcases (show t = 0 ∨ t = 1 ∨ t = 2 by omega) with rfl | rfl | rfl <;> rfl
    · rw [mSz_cv]
      have e9 : nativeFrameWords "java/lang/System" "arraycopy" 5 = 7 := by decide +kernel
      omega
    · refine kk ad H1 locs1 ls cells slots a1 a2 a3 ?_ ?_ e3 a7 a8
      · rw [mWs_row h1, mEnc_row h3]; exact e1
      · rw [mWs_row h1, mEnc_row h3]; exact e2
  · cases h
theorem sd_33 {x0 : Nat} (S : CallFix p m c cc nL s args (mWS j) (mOwn x0)) (hRf : 1 ≤ R.frames) (hRl : 30 ≤ R.locals) (hRc : σ.2.1.length ≤ R.cells + n0) (hRs : σ.1 ≤ R.slots + s0) {ps : List Nat} {x y : Int32} (hck : mKb x0 1 cc pc len .invokestatic ps = true) (b7 : mSz st ≤ 8) (kk : mG p l e R s m args below meth c D ta A ad0 n0 s0 nL Q (pc + len) L (.int (if y < x then y else x) :: st) σ) : mG p l e R s m args below meth c D ta A ad0 n0 s0 nL Q pc L (.int y :: .int x :: st) σ := by
  simp only [mKb, Bool.and_eq_true, beq_iff_eq] at hck
  obtain ⟨rfl, h⟩ := hck
  split at h
  · rename_i idx q rest
    rw [Bool.and_eq_true] at h
    have hd := mDc_ok h.1
    have hw := S.2.2.2.2 _ (List.mem_cons_of_mem _ (mLX_ok (of_decide_eq_true h.2)))
    have hb := fun w hw => S.2.2.2.2 w (List.mem_cons_of_mem _ (mUin_ok mB_min w hw))
    intro ad H locs ls cells slots a1 a2 a3 a4 a5 a6 a7 a8
    exact va_mmin S.1 S.2.1 (S.2.2.1.trans a8.1.symm) S.2.2.2.1 hw (hb _ (by simp)) (hb _ (by simp)) (hb _ (by simp)) hRf (by rw [mSz_cv]; omega) (by omega) (by omega) hd (kk ad H locs ls cells slots a1 a2 a3 a4 a5 a6 a7 a8)
  · cases h
theorem sd_34 {x0 : Nat} (S : CallFix p m c cc nL s args (mWS j) (mOwn x0)) (hRf : 1 ≤ R.frames) (hRl : 30 ≤ R.locals) {ps : List Nat} {o : Nat} (hck : mKb x0 2 cc pc len .invokespecial ps = true) (b7 : mSz st ≤ 8) (kk : mG p l e R s m args below meth c D ta A ad0 n0 s0 nL Q (pc + len) L st σ) : mG p l e R s m args below meth c D ta A ad0 n0 s0 nL Q pc L (.ref o :: st) σ := by
  simp only [mKb, Bool.and_eq_true, beq_iff_eq] at hck
  obtain ⟨rfl, h⟩ := hck
  split at h
  · rename_i idx q rest
    rw [Bool.and_eq_true] at h
    have hd := mDc_ok h.1
    have hw := S.2.2.2.2 _ (List.mem_cons_of_mem _ (mLX_ok (of_decide_eq_true h.2)))
    have hb := fun w hw => S.2.2.2.2 w (List.mem_cons_of_mem _ (mUin_ok mB_obj w hw))
    intro ad H locs ls cells slots a1 a2 a3 a4 a5 a6 a7 a8
    have hr := lv_room (m := m) (pc := pc) (ls := ls) (rest := .ref (ad o) :: st.map (mCv ad)) (st := st.map (mCv ad)) (by rw [mSz_cv]; exact b7)
    refine W.objInit S.1 S.2.1 S.2.2.2.1 hw (hb _ (by simp)) (hb _ (by simp)) rfl (a8.1.trans S.2.2.1.symm) rfl hd hRf (Nat.le_trans (Nat.add_le_add_right hr 12) (by omega)) ?_
    exact kk ad H locs ls cells slots a1 a2 a3 a4 a5 a6 a7 a8
  · cases h
/-! ends -/
theorem sd_30 (S : CallFix p m c cc nL s args (mWS j) own) {rt : Option FieldType} {τ σ0 : mMH} {sz : Nat} {x : Int32} (hr : meth.sig.returnType = rt) (hlocks : meth.locks = false) (hck : mK1 cc pc len .ireturn = true) (hx : mRt rt x) (hn : n0 = σ0.2.1.length) (hs : s0 = σ0.1) (hA : A = va_A (mWs ta ad0 σ0) sz)
    (hQ : Q = MQ below (mQc D ta ad0 sz σ0 (some x) τ) args s (τ.2.1.length - n0) (τ.1 - s0) (va_A (mWs ta ad0 σ0) sz)) : mG p l e R s m args below meth c D ta A ad0 n0 s0 nL Q pc L [.int x] τ := by
  simp only [mK1, Bool.and_eq_true, beq_iff_eq] at hck
  obtain ⟨rfl, h⟩ := hck
  obtain ⟨ty, ht, hnar⟩ := hx
  intro ad H locs ls cells slots a1 a2 a3 a4 a5 a6 a7 a8
  subst hQ; subst hA; subst hn; subst hs
  have e1 : τ.2.1.length - σ0.2.1.length = cells := by omega
  have e2 : τ.1 - σ0.1 = slots := by omega
  rw [e1, e2]
  refine W.zret (ty := ty) S.1 S.2.1 (hr.trans ht) hnar (fun t ht hW => ⟨⟨x, ad, rfl, ⟨rfl, a1⟩, ?_, a5⟩, a6.F ht⟩) a6.2.2 (mDc_ok h) hlocks
  rw [ht]; exact a4
theorem sd_31 (S : CallFix p m c cc nL s args (mWS j) own) {rt : Option FieldType} {τ σ0 : mMH} {sz : Nat} (hr : meth.sig.returnType = rt) (hlocks : meth.locks = false) (hck : mK1 cc pc len .return_ = true) (hx : rt = none) (hn : n0 = σ0.2.1.length) (hs : s0 = σ0.1) (hA : A = va_A (mWs ta ad0 σ0) sz)
    (hQ : Q = MQ below (mQc D ta ad0 sz σ0 none τ) args s (τ.2.1.length - n0) (τ.1 - s0) (va_A (mWs ta ad0 σ0) sz)) : mG p l e R s m args below meth c D ta A ad0 n0 s0 nL Q pc L [] τ := by
  simp only [mK1, Bool.and_eq_true, beq_iff_eq] at hck
  obtain ⟨rfl, h⟩ := hck
  intro ad H locs ls cells slots a1 a2 a3 a4 a5 a6 a7 a8
  subst hQ; subst hA; subst hn; subst hs
  have e1 : τ.2.1.length - σ0.2.1.length = cells := by omega
  have e2 : τ.1 - σ0.1 = slots := by omega
  rw [e1, e2]
  refine W.vret S.1 S.2.1 (hr.trans hx) (fun t ht hW => ⟨⟨ad, rfl, a1, ?_, a5⟩, a6.F ht⟩) a6.2.2 (mDc_ok h) hlocks
  rw [ht]; exact a4
/-! calls -/
theorem mKs_warm {ad : Nat → Nat} {A1 : Nat → Prop} {U : State} {locs : List Loc} (h : mKs D ta ad0 A s) (hW : s.WarmedH U.vm) (hS : va_S A s.heap U.heap locs) (hsub : ∀ q, A1 q → A q) (had : ∀ o, 1000000 ≤ o → ad o = ad0 o) : mKs D ta ad A1 U := by
  obtain ⟨h1, h2, h3, h4, h5, h6⟩ := h
  refine ⟨va_K.moved hW.alike h1, fun w hw => ?_, va_AO.moved hW.alike h3, va_AO.moved hW.alike h4, va_AO.moved hW.alike h5, mSs_to h6 hW hS hsub had⟩
  have h9 := h2 w hw
  simp only [mNW, List.mem_cons, List.not_mem_nil, or_false] at hw
  rcases hw with rfl | rfl | rfl | rfl | rfl | rfl | rfl | rfl | rfl | rfl | rfl | rfl <;> exact va_Nw.warmM hW h9
theorem mKs_calling {ad : Nat → Nat} {A1 : Nat → Prop} {U : State} (g : JFrame) (mk : MethodId) (a : Array Value) (h : mKs D ta ad A1 U) : mKs D ta ad A1 (U.calling g mk a) := by
  obtain ⟨h1, h2, h3, h4, h5, h6⟩ := h
  have hv : U.vm.Alike (U.calling g mk a).vm := Vm.Alike.refl U.vm
  refine ⟨va_K.moved hv h1, fun w hw => ?_, va_AO.moved hv h3, va_AO.moved hv h4, va_AO.moved hv h5, mSs_same rfl rfl h6⟩
  have h9 := h2 w hw
  simp only [mNW, List.mem_cons, List.not_mem_nil, or_false] at hw
  rcases hw with rfl | rfl | rfl | rfl | rfl | rfl | rfl | rfl | rfl | rfl | rfl | rfl <;> exact va_Nw.same rfl rfl h9
theorem mPc_blind {ad : Nat → Nat} {sz : Nat} {as : List Value} : FrameBlind (mPc D ta ad sz as σ) := fun a U g mk q => by
  obtain ⟨q1, q2, q3, q4, q5⟩ := q
  exact ⟨q1, q2, q3, mKs_calling g mk a q4, q5⟩
theorem mPc_at {ad : Nat → Nat} {as : List Value} {H : Heap} {U : State} {locs : List Loc} (hKs : mKs D ta ad0 A s) (hU : U.heap = H) (hW : s.WarmedH U.vm) (hP : va_P D mCL (mWs ta ad σ) H) (hD : va_D A (mWs ta ad σ)) (hS : va_S A s.heap H locs) (hsub : ∀ q, va_A (mWs ta ad σ) H.size q → A q) (had : ∀ o, 1000000 ≤ o → ad o = ad0 o) : mPc D ta ad H.size as σ (as.map (mCv ad)).toArray U :=
  ⟨rfl, by rw [hU], by rw [hU]; exact hP, mKs_warm hKs hW (by rw [hU]; exact hS) hsub had, hD.weaken (fun _ _ _ _ => trivial)⟩
theorem mA_sub {ad : Nat → Nat} {H : Heap} {locs : List Loc} (hA : ∀ q, s.heap.size ≤ q → A q) (hD : va_D A (mWs ta ad σ)) (hS : va_S A s.heap H locs) : ∀ q, va_A (mWs ta ad σ) H.size q → A q := by
  intro q h
  rcases h with ⟨k, e, h⟩ | h
  · exact hD.2 k _ h
  · exact hA q (Nat.le_trans hS.1 h)
theorem sd_call (S : CallFix p m c cc nL s args (mWS j) own) (hA : ∀ q, s.heap.size ≤ q → A q) {as : List Value} {r' : Option Int32} {σ' : mMH} (hle : mLe σ σ') (hout : mOut σ.2.1.length σ'.2.1.length L st)
    (hrun : ∀ (ad : Nat → Nat) (H : Heap) (locs : List Loc) (ls : Array Slot) (cells slots : Nat), (∀ o, 1000000 ≤ o → ad o = ad0 o) → va_S A s.heap H locs → (∀ q, va_A (mWs ta ad σ) H.size q → A q) → cells + n0 = σ.2.1.length → slots + s0 = σ.1 → va_P D mCL (mWs ta ad σ) H → va_D A (mWs ta ad σ) → lv_has ls nL (mLp ad L) → va_Run p l e R s m args below meth c H locs cells slots (σ'.2.1.length - σ.2.1.length) (σ'.1 - σ.1) (F0 m pc ls ((as.reverse ++ st).map (mCv ad))) (st.map (mCv ad)) (mQc D ta ad H.size σ r' σ' (as.map (mCv ad)).toArray) (va_A (mWs ta ad σ) H.size))
    (kk : mG p l e R s m args below meth c D ta A ad0 n0 s0 nL Q (pc + 3) L ((r'.map Value.int).toList ++ st) σ') : mG p l e R s m args below meth c D ta A ad0 n0 s0 nL Q pc L (as.reverse ++ st) σ := by
  intro ad H locs ls cells slots a1 a2 a3 a4 a5 a6 a7 a8
  have hsub := mA_sub hA a5 a6
  obtain ⟨l1, l2, l3⟩ := hle
  have hr := hrun ad H locs ls cells slots (fun o ho => a1 o (Or.inr (by omega))) a6 hsub a2 a3 a4 a5 a8
  have fin : ∀ (ad' : Nat → Nat) (t : State) (H1 : Heap) (locs1 : List Loc), t.heap = H1 → mAgr ad ad' σ.2.1.length σ'.2.1.length → va_P D mCL (mWs ta ad' σ') t.heap ∧ va_D (va_A (mWs ta ad σ) H.size) (mWs ta ad' σ') → va_S A s.heap H1 locs1 → W p l e R s m args below meth c H1 locs1 (cells + (σ'.2.1.length - σ.2.1.length)) (slots + (σ'.1 - σ.1)) Q (F0 m (pc + 3) ls (((r'.map Value.int).toList ++ st).map (mCv ad))) := by
    intro ad' t H1 locs1 ht hag hB hS1
    have hL : ∀ x, some (Value.ref x) ∈ L → ad' x = ad x := fun x hx => hag x (hout.1 x hx)
    have hs : ∀ x, Value.ref x ∈ (r'.map Value.int).toList ++ st → ad' x = ad x := fun x hx => by
      rcases List.mem_append.mp hx with h | h
      · cases r' <;> simp at h
      · exact hag x (hout.2 x h)
    have k := kk ad' H1 locs1 ls (cells + (σ'.2.1.length - σ.2.1.length)) (slots + (σ'.1 - σ.1)) (fun o ho => ?_) (by omega) (by omega) (by rw [← ht]; exact hB.1) (hB.2.weaken (fun _ q _ h => hsub q.1 h)) hS1 a7 (by rw [mLp_ad hL]; exact a8)
    · rw [mSt_ad hs] at k
      exact k
    · rw [hag o (by omega)]
      exact a1 o (by omega)
  cases r' with
  | some x =>
    exact va_calli (a := (as.map (mCv ad)).toArray) (post := fun y ad' => y = x ∧ mAgr ad ad' σ.2.1.length σ'.2.1.length) hr a6 (fun q _ h => hsub q h) hsub (fun r u t H1 locs1 ht _ hp hB _ _ hS1 => by
      obtain ⟨rfl, hag⟩ := hp
      exact fin u t H1 locs1 ht hag hB hS1)
  | none => exact va_callv (a := (as.map (mCv ad)).toArray) (post := fun ad' => mAgr ad ad' σ.2.1.length σ'.2.1.length) hr a6 (fun q _ h => hsub q h) hsub (fun u t H1 locs1 ht _ hp hB _ _ hS1 => fin u t H1 locs1 ht hp hB hS1)
/-- the number of a method's class -/
def mCi (j : Nat) : Nat := (([[0, 0, 0, 0, 0, 1, 1, 1, 1, 2, 2, 2, 2, 2, 2, 2], [2, 2, 2, 3, 3, 3, 3, 3, 3, 3, 3, 3, 3, 3, 3, 3], [3, 3, 3, 3, 3, 3, 3, 3, 3, 3, 3, 3, 3, 3, 3, 3], [3, 3, 3, 3, 3, 3, 3, 3, 3, 3, 3, 3, 3, 3, 3, 3], [3, 3, 3, 3, 4, 4, 4, 4, 4, 4, 4, 4, 4, 4, 5, 5], [5, 5, 5, 5, 5, 5, 5, 5, 5, 5, 5, 5, 5, 5, 5, 5], [5, 5, 5, 5, 6, 6, 6, 6, 6, 6, 6, 7, 7, 7, 7, 7], [7, 7, 7, 8, 8, 8, 8, 8, 8, 8, 8, 9, 9, 9, 9, 9], [9, 9, 9, 9, 9, 9, 9, 9, 9, 9, 9, 9, 9, 9, 9, 9], [9, 9, 9, 9, 9, 9, 9, 9, 9, 9, 9, 9, 9, 9, 9, 9], [10, 10, 10, 10, 10, 10, 10, 10, 10, 10, 10, 10, 10, 10, 10, 10], [10, 10, 10, 10, 10, 10, 10, 10, 10, 10, 10, 10, 10, 10, 10, 10], [10, 10, 10, 10, 10, 10, 10, 10, 10, 10, 10, 10, 10, 10, 10, 10], [10, 10, 10, 10, 10, 10, 10, 10, 10, 10, 10, 10, 10, 10, 10, 10], [10, 10, 10, 10, 10, 10, 10, 10, 10, 10, 10, 10, 10, 10, 10, 10], [10, 10, 10, 10, 10, 10, 10, 10, 10, 10, 10, 10, 10, 10, 10, 10], [10, 10, 10, 10, 10, 10, 10, 10, 10, 10, 10, 10, 10, 10, 11]] : List (List Nat)).getD (j / 16) []).getD (j % 16) 99
/-- what is known of a method that is called -/
def mMok (j na : Nat) : Prop := Cond.code (mt j).2.1 (mt j).2.2.1 (mt j).2.2.2.1 (mt j).2.2.2.2.1 ∈ mWT ∧ Cond.initialized (mt j).2.1.cls ∈ mWT ∧ ((mt j).2.1.cls ≠ "java/lang/invoke/MethodHandle" ∧ (mt j).2.1.cls ≠ "java/lang/invoke/VarHandle" ∧ (parseMethodDescriptor (mt j).2.1.desc).map (fun d => d.parameters.length) = some na) ∧ (mt j).2.2.2.1 ≤ 11 ∧ plainName (mt j).2.1.cls = true ∧ (match (mt j).2.2.2.2.2.1 with
  | 0 => Cond.instanceMethod (mt j).2.1 ∈ mWT ∧ Cond.selects (mt j).2.1.cls (mt j).2.1 (mt j).2.1 ∈ mWT
  | 1 => Cond.static (mt j).2.1 ∈ mWT
  | 2 => Cond.instanceMethod (mt j).2.1 ∈ mWT ∧ (mt j).2.1.name = "<init>" ∧ (mt j).2.2.2.2.1 = none
  | _ => False) ∧ mOwn (mCi j) = (mt j).2.1.cls
theorem mCB {j' na idx : Nat} {rm : Room} {mc ms : Nat} (S : CallFix p m c cc nL s args (mWS j) own) (hm : mMok j' na) (hl : Cond.methodLink own idx (mt j').2.1 ∈ mWT) (hrc : rm.cells = mc) (hrs : rm.slots = ms) (hR : rm.frames + 1 ≤ R.frames ∧ 8 + ((mt j').2.2.2.1 + 11) + rm.locals ≤ R.locals) : CallB R s args own idx (mt j').2.1 (mt j').2.2.1 (mt j').2.2.2.1 (mt j').2.2.2.2.1 (mWS j') rm mc ms na :=
  callB_of na S.2.2.2.2 (mWS_good hm.1) rfl hrc hrs (S.2.2.2.2 _ (List.mem_cons_of_mem _ hm.2.1)) (S.2.2.2.2 _ (List.mem_cons_of_mem _ hl)) hm.2.2.1 hR
theorem mCN {j' na idx : Nat} {host : String} {rm : Room} {mc ms : Nat} (S : CallFix p m c cc nL s args (mWS j) own) (hm : mMok j' na) (hl : va_Nw (.methodLinkNest own idx (mt j').2.1 host) s) (hrc : rm.cells = mc) (hrs : rm.slots = ms) (hR : rm.frames + 1 ≤ R.frames ∧ 8 + ((mt j').2.2.2.1 + 11) + rm.locals ≤ R.locals) : va_CN R s args own idx (mt j').2.1 host (mt j').2.2.1 (mt j').2.2.2.1 (mt j').2.2.2.2.1 (mWS j') rm mc ms na :=
  va_cnB na S.2.2.2.2 (mWS_good hm.1) rfl hrc hrs hl (S.2.2.2.2 _ (List.mem_cons_of_mem _ hm.2.1)) hm.2.2.1 hR
def mK29 (x : Nat) (cc : ByteArray) (pc len j na kind ci : Nat) (ps : List Nat) : Bool := len == 3 && (match ps with
  | idx :: q :: _ => match kind with
    | 0 => mDc cc pc (.invokevirtual idx) 3 && (decide (mLM q = some (x, idx, j)) && (decide ((mt j).2.2.2.2.2.1 = 0) && decide (ci < 11 ∧ ci = mCi j)))
    | 1 => mDc cc pc (.invokestatic idx) 3 && (decide (mLM q = some (x, idx, j)) && decide ((mt j).2.2.2.2.2.1 = 1))
    | 2 => mDc cc pc (.invokespecial idx) 3 && (decide (mLM q = some (x, idx, j)) && decide ((mt j).2.2.2.2.2.1 = 2))
    | 3 => mDc cc pc (.invokestatic idx) 3 && (decide (mLN q = some (x, idx, j)) && decide ((mt j).2.2.2.2.2.1 = 1))
    | 4 => mDc cc pc (.invokespecial idx) 3 && (decide (mLN q = some (x, idx, j)) && decide ((mt j).2.2.2.2.2.1 = 2))
    | _ => false
  | _ => false)
theorem sd_29 {x : Nat} (S : CallFix p m c cc nL s args (mWS j) (mOwn x)) (hKs : mKs D ta ad0 A s) (hA : ∀ q, s.heap.size ≤ q → A q) {d : Nat} (hRf : d + 1 ≤ R.frames) (hRl : 30 * d + 30 ≤ R.locals) {j' na kind ci : Nat} {ps : List Nat} {as : List Value} {r' : Option Int32} {σ' : mMH} (hck : mK29 x cc pc len j' na kind ci ps = true) (hm : mMok j' na) (hM : mMet l d j' as σ r' σ') (hlen : as.length = na + (if kind = 1 ∨ kind = 3 then 0 else 1)) (hsz : mSz st ≤ 8) (h0 : kind = 0 → ∃ o l', as = .ref o :: l' ∧ σ.2.1[o]? = some (ci, 0)) (h2 : kind = 2 ∨ kind = 4 → ∃ o l', as = .ref o :: l') (hRc : σ'.2.1.length ≤ R.cells + n0) (hRs : σ'.1 ≤ R.slots + s0) (hle : mLe σ σ') (hout : mOut σ.2.1.length σ'.2.1.length L st) (kk : mG p l e R s m args below meth c D ta A ad0 n0 s0 nL Q (pc + len) L ((r'.map Value.int).toList ++ st) σ') : mG p l e R s m args below meth c D ta A ad0 n0 s0 nL Q pc L (as.reverse ++ st) σ := by
  simp only [mK29, Bool.and_eq_true, beq_iff_eq] at hck
  obtain ⟨rfl, h⟩ := hck
  have hR : ∀ mc ms, (mRm d mc ms).frames + 1 ≤ R.frames ∧ 8 + ((mt j').2.2.2.1 + 11) + (mRm d mc ms).locals ≤ R.locals := fun mc ms => ⟨hRf, by have := hm.2.2.2.1; show 8 + ((mt j').2.2.2.1 + 11) + 30 * d ≤ R.locals; omega⟩
  obtain ⟨l1, l2, l3⟩ := id hle
  split at h
  · rename_i idx q rest
    refine sd_call S hA hle hout ?_ kk
    intro ad H locs ls cells slots b1 b2 b3 a2 a3 a4 a5 a8
    have hroom := lv_room (m := m) (pc := pc) (ls := ls) (rest := (as.reverse ++ st).map (mCv ad)) (st := st.map (mCv ad)) (by rw [mSz_cv]; exact hsz)
    have hfit : cells + (σ'.2.1.length - σ.2.1.length) ≤ R.cells ∧ slots + (σ'.1 - σ.1) ≤ R.slots := ⟨by omega, by omega⟩
    split at h
    · simp only [Bool.and_eq_true, decide_eq_true_eq] at h
      obtain ⟨g1, g2, g3, g4, g5⟩ := h
      obtain ⟨o, l', rfl, ho⟩ := h0 rfl
      have g6 := hm.2.2.2.2.2.1
      rw [g3] at g6
      obtain ⟨r, hr, -⟩ := mC_ok ci g4
      have hcls : r.1 = (mt j').2.1.cls := (mOwn_CL g4 hr).trans (by rw [g5]; exact hm.2.2.2.2.2.2)
      exact va_runV (C := (mt j').2.1.cls) (As := l'.map (mCv ad)) (b := ad o) S (hM D ta ad H.size) ⟨mCB S hm (mLM_ok g2) rfl rfl (hR _ _), S.2.2.2.2 _ (List.mem_cons_of_mem _ g6.1), S.2.2.2.2 _ (List.mem_cons_of_mem _ g6.2)⟩ ⟨mPc_blind, hcls ▸ va_recv hKs.1 a4 hr (by rw [mWs_get ho, mEnc_obj g4]), fun U hU hW => mPc_at (as := .ref o :: l') hKs hU hW a4 a5 b2 b3 b1⟩ rfl (by simpa using hlen) a8.1 (by simp [List.map_reverse, mCv]) hroom (mDc_ok g1) hfit
    · simp only [Bool.and_eq_true, decide_eq_true_eq] at h
      obtain ⟨g1, g2, g3⟩ := h
      have g6 := hm.2.2.2.2.2.1
      rw [g3] at g6
      exact va_runS (As := as.map (mCv ad)) S (hM D ta ad H.size) ⟨mCB S hm (mLM_ok g2) rfl rfl (hR _ _), S.2.2.2.2 _ (List.mem_cons_of_mem _ g6)⟩ ⟨mPc_blind, fun U hU hW => mPc_at hKs hU hW a4 a5 b2 b3 b1⟩ rfl (by simpa using hlen) a8.1 (by simp [List.map_reverse]) hroom (mDc_ok g1) hfit
    · simp only [Bool.and_eq_true, decide_eq_true_eq] at h
      obtain ⟨g1, g2, g3⟩ := h
      obtain ⟨o, l', rfl⟩ := h2 (Or.inl rfl)
      have g6 := hm.2.2.2.2.2.1
      rw [g3] at g6
      exact va_runI (As := l'.map (mCv ad)) (b := ad o) S (hM D ta ad H.size) ⟨by rw [← g6.2.2]; exact mCB S hm (mLM_ok g2) rfl rfl (hR _ _), g6.2.1, S.2.2.2.2 _ (List.mem_cons_of_mem _ g6.1)⟩ ⟨mPc_blind, fun U hU hW => mPc_at (as := .ref o :: l') hKs hU hW a4 a5 b2 b3 b1⟩ rfl (by simpa using hlen) a8.1 (by simp [List.map_reverse, mCv]) hroom (mDc_ok g1) hfit
    · simp only [Bool.and_eq_true, decide_eq_true_eq] at h
      obtain ⟨g1, g2, g3⟩ := h
      have g6 := hm.2.2.2.2.2.1
      rw [g3] at g6
      exact va_runSN (As := as.map (mCv ad)) S (hM D ta ad H.size) ⟨mCN S hm (hKs.2.1 _ (mLN_ok g2)) rfl rfl (hR _ _), S.2.2.2.2 _ (List.mem_cons_of_mem _ g6), trivial⟩ ⟨mPc_blind, fun U hU hW => mPc_at hKs hU hW a4 a5 b2 b3 b1⟩ rfl (by simpa using hlen) a8.1 (by simp [List.map_reverse]) hroom (mDc_ok g1) hfit
    · simp only [Bool.and_eq_true, decide_eq_true_eq] at h
      obtain ⟨g1, g2, g3⟩ := h
      obtain ⟨o, l', rfl⟩ := h2 (Or.inr rfl)
      have g6 := hm.2.2.2.2.2.1
      rw [g3] at g6
      exact va_runIN (As := l'.map (mCv ad)) (b := ad o) S (hM D ta ad H.size) ⟨by rw [← g6.2.2]; exact mCN S hm (hKs.2.1 _ (mLN_ok g2)) rfl rfl (hR _ _), g6.2.1, S.2.2.2.2 _ (List.mem_cons_of_mem _ g6.1)⟩ ⟨mPc_blind, fun U hU hW => mPc_at (as := .ref o :: l') hKs hU hW a4 a5 b2 b3 b1⟩ rfl (by simpa using hlen) a8.1 (by simp [List.map_reverse, mCv]) hroom (mDc_ok g1) hfit
    · cases h
  · cases h
/-! new objects -/
theorem sd_new (hA : ∀ q, s.heap.size ≤ q → A q) {kd n sz : Nat} {ad : Nat → Nat} {q : Nat} {H1 : Heap} {locs : List Loc} {ls : Array Slot} {cells slots : Nat} {st : List Value} (hn : n0 ≤ σ.2.1.length) (hout : mOut σ.2.1.length (σ.2.1.length + 1) L st) (hr : mRfo σ)
    (a1 : mAgr ad0 ad n0 σ.2.1.length) (a2 : cells + n0 = σ.2.1.length) (a3 : slots + s0 = σ.1) (b1 : va_P D mCL (mWs ta ad σ ++ [(q, mEnc ta ad (kd, n) (fun _ => none) (fun _ => 0) (fun _ => 0))]) H1) (b2 : va_D A (mWs ta ad σ ++ [(q, mEnc ta ad (kd, n) (fun _ => none) (fun _ => 0) (fun _ => 0))])) (b3 : va_S A s.heap H1 locs) (a7 : L.length = nL) (a8 : lv_has ls nL (mLp ad L)) {pc' : Nat}
    (kk : mG p l e R s m args below meth c D ta A ad0 n0 s0 nL Q pc' L (.ref σ.2.1.length :: st) (mNew σ kd n sz)) : W p l e R s m args below meth c H1 locs (cells + 1) (slots + sz) Q (F0 m pc' ls (.ref q :: st.map (mCv ad))) := by
  have hlen : (mNew σ kd n sz).2.1.length = σ.2.1.length + 1 := by simp [mNew]
  have hne : ∀ x, (x < σ.2.1.length ∨ σ.2.1.length + 1 ≤ x) → va_up ad σ.2.1.length q x = ad x := fun x hx => mup_ne (by omega)
  have hL : ∀ x, some (Value.ref x) ∈ L → va_up ad σ.2.1.length q x = ad x := fun x hx => hne x (hout.1 x hx)
  have hs : ∀ x, Value.ref x ∈ st → va_up ad σ.2.1.length q x = ad x := fun x hx => hne x (hout.2 x hx)
  have k := kk (va_up ad σ.2.1.length q) H1 locs ls (cells + 1) (slots + sz) (fun o ho => by rw [hlen] at ho; rw [hne o (by omega)]; exact a1 o (by omega)) (by rw [hlen]; omega) (by show slots + sz + s0 = σ.1 + sz; omega) (by rw [mWs_new hr]; exact b1) (by rw [mWs_new hr]; exact b2) b3 a7 (by rw [mLp_ad hL]; exact a8)
  rw [List.map_cons, mSt_ad hs, show mCv (va_up ad σ.2.1.length q) (.ref σ.2.1.length) = .ref q from congrArg Value.ref mup_eq] at k
  exact k
def mK35 (x : Nat) (cc : ByteArray) (pc len ci : Nat) (ps : List Nat) : Bool := len == 3 && (decide (ci < 11) && (match ps with
  | idx :: q :: _ => mDc cc pc (.new idx) 3 && decide (mLC q = some (x, idx, ci))
  | _ => false))
theorem mDef_at {ad : Nat → Nat} {ci k : Nat} (hc : ci < 11) (hk : k < (mFt.getD ci []).length) : defaultValue (mTF ci k) = vp_V (mFs ad ci (fun _ => none) (fun _ => 0) (fun _ => 0)) k := by
  obtain ⟨t, ht⟩ : ∃ t, (mFt.getD ci [])[k]? = some t := ⟨_, List.getElem?_eq_getElem hk⟩
  have h := mFt_at hc ht
  unfold vp_V
  rw [List.getD_eq_getElem?_getD, mFs_at ht, Option.getD_some]
  match t, h with
  | 0, h => rw [of_decide_eq_true h]; rfl
  | 1, h => rw [of_decide_eq_true h]; rfl
  | 3, h => rw [of_decide_eq_true h]; rfl
  | 4, h =>
    have h : mRefT (mTF ci k) = true := h
    revert h
    generalize mTF ci k = ty
    intro h
    cases ty <;> first | rfl | (cases h; done)
theorem sd_35 {x : Nat} (S : CallFix p m c cc nL s args (mWS j) (mOwn x)) (hK : va_K D mCL (mTYs ta) s) (hA : ∀ q, s.heap.size ≤ q → A q) {ci : Nat} {ps : List Nat} (hck : mK35 x cc pc len ci ps = true) (hRc : σ.2.1.length + 1 ≤ R.cells + n0) (hRs : σ.1 + (mFt.getD ci []).length ≤ R.slots + s0) (hout : mOut σ.2.1.length (σ.2.1.length + 1) L st) (hr : mRfo σ) (kk : mG p l e R s m args below meth c D ta A ad0 n0 s0 nL Q (pc + len) L (.ref σ.2.1.length :: st) (mNew σ ci 0 (mFt.getD ci []).length)) : mG p l e R s m args below meth c D ta A ad0 n0 s0 nL Q pc L st σ := by
  simp only [mK35, Bool.and_eq_true, beq_iff_eq, decide_eq_true_eq] at hck
  obtain ⟨rfl, hc, h⟩ := hck
  split at h
  · rename_i idx q rest
    rw [Bool.and_eq_true] at h
    obtain ⟨r, hr1, g1, g2, g3, g4, g5, g6⟩ := mC_ok ci hc
    obtain ⟨r', hr2, hw2⟩ := mLC_ok (of_decide_eq_true h.2)
    have e : r' = r := Option.some.inj (hr2.symm.trans hr1)
    rw [e] at hw2
    intro ad H locs ls cells slots a1 a2 a3 a4 a5 a6 a7 a8
    rw [g4] at hRs kk
    refine va_new (ci := ci) (fs := mFs ad ci (fun _ => none) (fun _ => 0) (fun _ => 0)) (C := r.1) (T := r.2.1) (N := r.2.2) S.1 S.2.1 S.2.2.2.2 (fun w hw => List.mem_cons_of_mem _ (g1 w hw)) (mTF ci) g2 S.2.2.2.1 (S.2.2.2.2 _ (List.mem_cons_of_mem _ hw2)) (S.2.2.2.2 _ (List.mem_cons_of_mem _ g5)) (S.2.2.2.2 _ (List.mem_cons_of_mem _ g6)) hK a4 a5 a6 hA hr1 (fun k hk => mDef_at hc (by omega)) (by omega) (by omega) (mDc_ok h.1) (fun q H1 b1 b2 b3 => ?_)
    exact sd_new (kd := ci) (n := 0) hA (by omega) hout hr a1 a2 a3 (by rw [mEnc_obj hc]; exact b1) (by rw [mEnc_obj hc]; exact b2) b3 a7 a8 kk
  · cases h
def mAty (t : Nat) : ArrayType := match t with
  | 0 => .int
  | 1 => .byte
  | 2 => .boolean
  | _ => .long
theorem mB_arr : mUin [135, 134, 312, 1428] [.arrayClass .int, .arrayClass .byte, .arrayClass .boolean, .arrayClass .long] = true := by decide +kernel
def mK36 (cc : ByteArray) (pc len t : Nat) : Bool := len == 2 && (decide (t < 4) && mDc cc pc (.newarray (mAty t)) 2)
/-- the class of an array's kind is one -/
theorem mTa_one (hK : va_K D mCL (mTYs ta) s) {t : Nat} {cA : ClassId} (ht : t < 7) (h : va_K D mCL (mTYs ta ++ [(cA, mTy (20 + t))]) s) : cA = ta t := by
  have h1 := (h.2 7 (cA, mTy (20 + t)) rfl).2
  have h2 := (hK.2 t (ta t, mTy (20 + t)) (mTY_at ht)).2
  rcases (show t = 0 ∨ t = 1 ∨ t = 2 ∨ t = 3 ∨ t = 4 ∨ t = 5 ∨ t = 6 by omega) with rfl | rfl | rfl | rfl | rfl | rfl | rfl
  · exact Option.some.inj (h1.symm.trans h2)
  · exact Option.some.inj (h1.symm.trans h2)
  · exact Option.some.inj (h1.symm.trans h2)
  · exact Option.some.inj (h1.symm.trans h2)
  all_goals
    obtain ⟨-, -, -, -, -, e1⟩ := h1
    obtain ⟨-, -, -, -, -, e2⟩ := h2
    exact Option.some.inj (e1.symm.trans e2)
theorem sd_36 (S : CallFix p m c cc nL s args (mWS j) own) (hK : va_K D mCL (mTYs ta) s) (hA : ∀ q, s.heap.size ≤ q → A q) {t : Nat} {n : Int32} (hck : mK36 cc pc len t = true) (hn : ¬ n < 0) (hb : n.toNatClampNeg ≤ 65536) (hRc : σ.2.1.length + 1 ≤ R.cells + n0) (hRs : σ.1 + n.toNatClampNeg ≤ R.slots + s0) (hout : mOut σ.2.1.length (σ.2.1.length + 1) L st) (hr : mRfo σ) (kk : mG p l e R s m args below meth c D ta A ad0 n0 s0 nL Q (pc + len) L (.ref σ.2.1.length :: st) (mNew σ (20 + t) n.toNatClampNeg n.toNatClampNeg)) : mG p l e R s m args below meth c D ta A ad0 n0 s0 nL Q pc L (.int n :: st) σ := by
  simp only [mK36, Bool.and_eq_true, beq_iff_eq, decide_eq_true_eq] at hck
  obtain ⟨rfl, ht, h⟩ := hck
  have h := mDc_ok h
  have hw := fun w hw => S.2.2.2.2 w (List.mem_cons_of_mem _ (mUin_ok mB_arr w hw))
  intro ad H locs ls cells slots a1 a2 a3 a4 a5 a6 a7 a8
  have fin : ∀ (q : Nat) (cA : ClassId) (H1 : Heap), va_K D mCL (mTYs ta ++ [(cA, mTy (20 + t))]) s → va_P D mCL (mWs ta ad σ ++ [(q, mEnc ta ad (20 + t, n.toNatClampNeg) (fun _ => none) (fun _ => 0) (fun _ => 0))]) H1 → va_D A (mWs ta ad σ ++ [(q, mEnc ta ad (20 + t, n.toNatClampNeg) (fun _ => none) (fun _ => 0) (fun _ => 0))]) → va_S A s.heap H1 locs → W p l e R s m args below meth c H1 locs (cells + 1) (slots + n.toNatClampNeg) Q (F0 m (pc + 2) ls (.ref q :: st.map (mCv ad))) := fun q cA H1 _ b1 b2 b3 => sd_new hA (by omega) hout hr a1 a2 a3 b1 b2 b3 a7 a8 kk
  rcases (show t = 0 ∨ t = 1 ∨ t = 2 ∨ t = 3 by omega) with rfl | rfl | rfl | rfl
  · refine va_newa (atype := .int) (a0 := (n.toNatClampNeg, .inl (fun _ => 0))) S.1 S.2.1 (hw (.arrayClass .int) (by simp)) rfl hK a4 a5 a6 hA (fun _ => rfl) hn rfl (by show n.toNatClampNeg * 4 ≤ _; omega) (by omega) (by omega) h (fun q cA H1 b0 b1 b2 b3 => ?_)
    have e := mTa_one (t := 0) hK (by omega) b0
    subst e
    exact fin q _ H1 b0 b1 b2 b3
  · refine va_newa (atype := .byte) (a0 := (n.toNatClampNeg, .inl (fun _ => 0))) S.1 S.2.1 (hw (.arrayClass .byte) (by simp)) rfl hK a4 a5 a6 hA (fun _ => rfl) hn rfl (by show n.toNatClampNeg * 1 ≤ _; omega) (by omega) (by omega) h (fun q cA H1 b0 b1 b2 b3 => ?_)
    have e := mTa_one (t := 1) hK (by omega) b0
    subst e
    exact fin q _ H1 b0 b1 b2 b3
  · refine va_newa (atype := .boolean) (a0 := (n.toNatClampNeg, .inl (fun _ => 0))) S.1 S.2.1 (hw (.arrayClass .boolean) (by simp)) rfl hK a4 a5 a6 hA (fun _ => rfl) hn rfl (by show n.toNatClampNeg * 1 ≤ _; omega) (by omega) (by omega) h (fun q cA H1 b0 b1 b2 b3 => ?_)
    have e := mTa_one (t := 2) hK (by omega) b0
    subst e
    exact fin q _ H1 b0 b1 b2 b3
  · refine va_newa (atype := .long) (a0 := (n.toNatClampNeg, .inr (.inl (fun _ => 0)))) S.1 S.2.1 (hw (.arrayClass .long) (by simp)) rfl hK a4 a5 a6 hA (fun _ => rfl) hn rfl (by show n.toNatClampNeg * 8 ≤ _; omega) (by omega) (by omega) h (fun q cA H1 b0 b1 b2 b3 => ?_)
    have e := mTa_one (t := 3) hK (by omega) b0
    subst e
    exact fin q _ H1 b0 b1 b2 b3
def mK37 (x : Nat) (cc : ByteArray) (pc len t : Nat) (ps : List Nat) : Bool := len == 3 && (decide (4 ≤ t ∧ t < 7) && (match ps with
  | idx :: q :: _ => mDc cc pc (.anewarray idx) 3 && decide (mLC q = some (x, idx, mEl (20 + t)))
  | _ => false))
theorem sd_37 {x : Nat} (S : CallFix p m c cc nL s args (mWS j) (mOwn x)) (hKs : mKs D ta ad0 A s) (hA : ∀ q, s.heap.size ≤ q → A q) {t : Nat} {n : Int32} {ps : List Nat} (hck : mK37 x cc pc len t ps = true) (hn : ¬ n < 0) (hb : n.toNatClampNeg ≤ 65536) (hRc : σ.2.1.length + 1 ≤ R.cells + n0) (hRs : σ.1 + n.toNatClampNeg ≤ R.slots + s0) (hout : mOut σ.2.1.length (σ.2.1.length + 1) L st) (hr : mRfo σ) (kk : mG p l e R s m args below meth c D ta A ad0 n0 s0 nL Q (pc + len) L (.ref σ.2.1.length :: st) (mNew σ (20 + t) n.toNatClampNeg n.toNatClampNeg)) : mG p l e R s m args below meth c D ta A ad0 n0 s0 nL Q pc L (.int n :: st) σ := by
  simp only [mK37, Bool.and_eq_true, beq_iff_eq, decide_eq_true_eq] at hck
  obtain ⟨rfl, ⟨h4, h7⟩, h⟩ := hck
  split at h
  · rename_i idx q rest
    rw [Bool.and_eq_true] at h
    have hd := mDc_ok h.1
    obtain ⟨r', hr2, hw2⟩ := mLC_ok (of_decide_eq_true h.2)
    have hw := S.2.2.2.2 _ (List.mem_cons_of_mem _ hw2)
    intro ad H locs ls cells slots a1 a2 a3 a4 a5 a6 a7 a8
    have fin : ∀ (q : Nat) (cA : ClassId) (H1 : Heap), va_K D mCL (mTYs ta ++ [(cA, mTy (20 + t))]) s → va_P D mCL (mWs ta ad σ ++ [(q, .inl (cA, n.toNatClampNeg, .inr (.inr (.inr (.inr (fun _ => none))))))]) H1 → va_D A (mWs ta ad σ ++ [(q, .inl (cA, n.toNatClampNeg, .inr (.inr (.inr (.inr (fun _ => none))))))]) → va_S A s.heap H1 locs → W p l e R s m args below meth c H1 locs (cells + 1) (slots + n.toNatClampNeg) Q (F0 m (pc + 3) ls (.ref q :: st.map (mCv ad))) := by
      intro q cA H1 b0 b1 b2 b3
      have e := mTa_one hKs.1 h7 b0
      subst e
      exact sd_new hA (by omega) hout hr a1 a2 a3 (by rw [mEnc_rowR h4]; exact b1) (by rw [mEnc_rowR h4]; exact b2) b3 a7 a8 kk
    rcases (show t = 4 ∨ t = 5 ∨ t = 6 by omega) with rfl | rfl | rfl <;> cases hr2
    · exact va_newq (C := "MeetingMachines$Link") S.1 S.2.1 S.2.2.2.1 hw hKs.2.2.1 hKs.1 a4 a5 a6 hA hn rfl (by omega) (by omega) (by omega) hd fin
    · exact va_newq (C := "MeetingMachines$Machine") S.1 S.2.1 S.2.2.2.1 hw hKs.2.2.2.1 hKs.1 a4 a5 a6 hA hn rfl (by omega) (by omega) (by omega) hd fin
    · exact va_newq (C := "MeetingMachines$World") S.1 S.2.1 S.2.2.2.1 hw hKs.2.2.2.2.1 hKs.1 a4 a5 a6 hA hn rfl (by omega) (by omega) (by omega) hd fin
  · cases h
/-! one step, a block, a run, a method -/
/-! texts -/
theorem mSs_ad {ad : Nat → Nat} (h : mSs ad0 A s) (had : ∀ o, 1000000 ≤ o → ad o = ad0 o) : mSs ad A s := by
  obtain ⟨h1, h2, h3, h4⟩ := h
  have e1 : (fun i => ad (1000000 + i)) = (fun i => ad0 (1000000 + i)) := funext fun i => had _ (by omega)
  have e2 : (fun i => ad (1000010 + i)) = (fun i => ad0 (1000010 + i)) := funext fun i => had _ (by omega)
  refine ⟨by rw [e1, e2]; exact h1, fun i r hi => by rw [had _ (by omega)]; exact h2 i r hi, h3, h4⟩
def mK38 (x : Nat) (cc : ByteArray) (pc len i : Nat) (ps : List Nat) : Bool := len == 2 && (match ps with
  | idx :: _ => mDc cc pc (.ldc idx) 2 && (match mSo[i]? with | some r => decide (r.1 = mOwn x) && decide (r.2.1 = idx) | none => false)
  | _ => false)
theorem sd_38 {x0 : Nat} (S : CallFix p m c cc nL s args (mWS j) (mOwn x0)) (hKs : mKs D ta ad0 A s) {i : Nat} {ps : List Nat} (hck : mK38 x0 cc pc len i ps = true) (hz : σ.2.1.length ≤ 1000000) (kk : mG p l e R s m args below meth c D ta A ad0 n0 s0 nL Q (pc + len) L (.ref (1000000 + i) :: st) σ) : mG p l e R s m args below meth c D ta A ad0 n0 s0 nL Q pc L st σ := by
  intro ad H locs ls cells slots a1 a2 a3 a4 a5 a6 a7 a8
  have k := kk ad H locs ls cells slots a1 a2 a3 a4 a5 a6 a7 a8
  simp only [mK38, Bool.and_eq_true, beq_iff_eq] at hck
  obtain ⟨rfl, h⟩ := hck
  split at h
  · rename_i idx rest
    simp only [Bool.and_eq_true] at h
    obtain ⟨h1, h2⟩ := h
    split at h2
    · rename_i r hr
      simp only [Bool.and_eq_true, decide_eq_true_eq] at h2
      obtain ⟨h3, h4⟩ := h2
      have h5 := (mSs_ad hKs.2.2.2.2.2 (ad := ad) (fun o ho => a1 o (Or.inr (by omega)))).2.1 i r hr
      rw [h3, h4] at h5
      exact va_ldcS S.1 S.2.1 S.2.2.2.1 h5 (mDc_ok h1) k
    · cases h2
  · cases h
theorem sd_39 {x0 : Nat} (S : CallFix p m c cc nL s args (mWS j) (mOwn x0)) (hKs : mKs D ta ad0 A s) (hRf : 4 ≤ R.frames) (hRl : 120 ≤ R.locals) {ps : List Nat} {i : Nat} (hck : mKb x0 3 cc pc len .invokevirtual ps = true) (hi : i < 6) (hRc : σ.2.1.length ≤ R.cells + n0) (hRs : σ.1 ≤ R.slots + s0) (hz : σ.2.1.length ≤ 1000000) (b7 : mSz st ≤ 8) (kk : mG p l e R s m args below meth c D ta A ad0 n0 s0 nL Q (pc + len) L (.int (nI (mSl.getD i 0)) :: st) σ) : mG p l e R s m args below meth c D ta A ad0 n0 s0 nL Q pc L (.ref (1000000 + i) :: st) σ := by
  intro ad H locs ls cells slots a1 a2 a3 a4 a5 a6 a7 a8
  simp only [mKb, Bool.and_eq_true, beq_iff_eq] at hck
  obtain ⟨rfl, h⟩ := hck
  split at h
  · rename_i idx q rest
    simp only [Bool.and_eq_true, decide_eq_true_eq] at h
    obtain ⟨h1, h2⟩ := h
    have had : ∀ o, 1000000 ≤ o → ad o = ad0 o := fun o ho => a1 o (Or.inr (by omega))
    have hSs := mSs_ad hKs.2.2.2.2.2 had
    have hin : ∀ w ∈ mWT, w.before args s = true := fun w hw => S.2.2.2.2 w (List.mem_cons_of_mem _ hw)
    have hroom := lv_room (m := m) (pc := pc) (ls := ls) (rest := (.ref (1000000 + i) :: st).map (mCv ad)) (st := st.map (mCv ad)) (by rw [mSz_cv]; exact b7)
    refine va_calli (va_runV (C := "java/lang/String") (As := []) (b := ad (1000000 + i)) (rest := st.map (mCv ad)) S (cS_length l hi (ad := ad) (A := A)) ⟨callB_of 0 S.2.2.2.2 (mJw_good (mW_in (p := 144) rfl rfl)) rfl rfl rfl (hin _ (mW_in (p := 5) rfl rfl)) (hin _ (mLX_ok h2)) ⟨by decide, by decide, by decide +kernel⟩ ⟨by show 1 + 1 ≤ R.frames; omega, by show 8 + (1 + 11) + 30 ≤ R.locals; omega⟩, hin _ (mW_in (p := 142) rfl rfl), hin _ (mW_in (p := 143) rfl rfl)⟩ ⟨mSs_blind, vk_recv (i := i) (adK := fun i => ad (1000000 + i)) hSs.1 hi a6, fun U hU hW => ⟨rfl, mSs_to hSs hW (by rw [hU]; exact a6) (fun _ h => h) (fun _ _ => rfl)⟩⟩ rfl rfl a8.1 rfl hroom (mDc_ok h1) ⟨by omega, by omega⟩) a6 (fun q _ h => h.elim) (fun q h => h.elim) (fun r_ u t H1 locs1 ht hvm hw hB hz1 hk1 hS1 => ?_)
    subst hw
    exact kk ad H1 locs1 ls cells slots a1 a2 a3 (a4.kept (fun k q hk => hk1 q.1 (a4 k q hk).lt (fun h => h))) a5 hS1 a7 a8
  · cases h
theorem sd_40 {x0 : Nat} (S : CallFix p m c cc nL s args (mWS j) (mOwn x0)) (hKs : mKs D ta ad0 A s) (hRf : 4 ≤ R.frames) (hRl : 120 ≤ R.locals) {ps : List Nat} {i : Nat} {z : Int32} (hck : mKb x0 4 cc pc len .invokevirtual ps = true) (hi : i < 6) (hzi : vp_in z (mSl.getD i 0)) (hRc : σ.2.1.length ≤ R.cells + n0) (hRs : σ.1 ≤ R.slots + s0) (hz : σ.2.1.length ≤ 1000000) (b7 : mSz st ≤ 8) (kk : mG p l e R s m args below meth c D ta A ad0 n0 s0 nL Q (pc + len) L (.int (mSc i z.toNatClampNeg) :: st) σ) : mG p l e R s m args below meth c D ta A ad0 n0 s0 nL Q pc L (.int z :: .ref (1000000 + i) :: st) σ := by
  intro ad H locs ls cells slots a1 a2 a3 a4 a5 a6 a7 a8
  simp only [mKb, Bool.and_eq_true, beq_iff_eq] at hck
  obtain ⟨rfl, h⟩ := hck
  have hl2 := (mSl_ok i hi).2.1
  obtain ⟨k0, hk0, rfl⟩ := vp_in_of hzi (by omega)
  rw [nI_clamp (by omega)] at kk
  split at h
  · rename_i idx q rest
    simp only [Bool.and_eq_true, decide_eq_true_eq] at h
    obtain ⟨h1, h2⟩ := h
    have had : ∀ o, 1000000 ≤ o → ad o = ad0 o := fun o ho => a1 o (Or.inr (by omega))
    have hSs := mSs_ad hKs.2.2.2.2.2 had
    have hin : ∀ w ∈ mWT, w.before args s = true := fun w hw => S.2.2.2.2 w (List.mem_cons_of_mem _ hw)
    have hroom := lv_room (m := m) (pc := pc) (ls := ls) (rest := (.int (nI k0) :: .ref (1000000 + i) :: st).map (mCv ad)) (st := st.map (mCv ad)) (by rw [mSz_cv]; exact b7)
    refine va_calli (va_runV (C := "java/lang/String") (As := [.int (nI k0)]) (b := ad (1000000 + i)) (rest := st.map (mCv ad)) S (cS_charAt l hi hk0 (ad := ad) (A := A)) ⟨callB_of 1 S.2.2.2.2 (mJw_good (mW_in (p := 154) rfl rfl)) rfl rfl rfl (hin _ (mW_in (p := 5) rfl rfl)) (hin _ (mLX_ok h2)) ⟨by decide, by decide, by decide +kernel⟩ ⟨by show 3 + 1 ≤ R.frames; omega, by show 8 + (2 + 11) + 90 ≤ R.locals; omega⟩, hin _ (mW_in (p := 152) rfl rfl), hin _ (mW_in (p := 153) rfl rfl)⟩ ⟨mSs_blind, vk_recv (i := i) (adK := fun i => ad (1000000 + i)) hSs.1 hi a6, fun U hU hW => ⟨rfl, mSs_to hSs hW (by rw [hU]; exact a6) (fun _ h => h) (fun _ _ => rfl)⟩⟩ rfl rfl a8.1 rfl hroom (mDc_ok h1) ⟨by omega, by omega⟩) a6 (fun q _ h => h.elim) (fun q h => h.elim) (fun r_ u t H1 locs1 ht hvm hw hB hz1 hk1 hS1 => ?_)
    subst hw
    exact kk ad H1 locs1 ls cells slots a1 a2 a3 (a4.kept (fun k q hk => hk1 q.1 (a4 k q hk).lt (fun h => h))) a5 hS1 a7 a8
  · cases h
def mNa (j : Nat) : Nat := (([[0, 0, 5, 2, 1, 0, 0, 1, 1, 0, 0, 3, 0, 3, 0, 0], [0, 1, 1, 2, 1, 1, 3, 0, 0, 0, 0, 1, 2, 2, 0, 1], [0, 1, 1, 0, 0, 1, 0, 2, 3, 1, 1, 2, 1, 0, 0, 1], [0, 0, 0, 0, 1, 5, 2, 1, 4, 1, 0, 0, 0, 1, 0, 1], [1, 0, 2, 1, 0, 0, 3, 1, 2, 4, 3, 1, 2, 2, 0, 2], [2, 3, 2, 0, 0, 1, 1, 0, 0, 0, 0, 0, 0, 0, 0, 0], [0, 1, 2, 1, 0, 0, 3, 1, 1, 2, 1, 0, 2, 1, 1, 1], [2, 3, 1, 0, 1, 1, 1, 2, 1, 2, 0, 0, 5, 1, 1, 0], [2, 1, 2, 1, 1, 3, 4, 1, 0, 2, 2, 3, 3, 3, 2, 0], [2, 1, 3, 4, 3, 2, 1, 1, 1, 1, 1, 2, 1, 1, 1, 2], [0, 0, 3, 1, 1, 5, 1, 1, 1, 1, 0, 1, 1, 0, 0, 2], [1, 0, 0, 2, 0, 0, 0, 0, 0, 0, 0, 0, 0, 1, 2, 1], [1, 1, 1, 2, 0, 1, 1, 0, 0, 0, 1, 0, 1, 3, 1, 5], [1, 0, 0, 1, 1, 2, 1, 2, 1, 1, 2, 2, 7, 4, 1, 0], [0, 1, 1, 1, 1, 1, 1, 2, 1, 3, 3, 0, 2, 1, 1, 1], [2, 0, 2, 2, 1, 0, 0, 1, 1, 3, 4, 1, 2, 2, 3, 3], [3, 2, 0, 0, 0, 0, 0, 2, 3, 4, 3, 1, 1, 1, 2]] : List (List Nat)).getD (j / 16) []).getD (j % 16) 99
def mChkI (x : Nat) (ini : Bool) (cc : ByteArray) (bp : Nat → Nat) (pc : Nat) (ri : mRI) : Bool := match ri with
  | (0, n, v, _) => mK0 cc pc n v
  | (1, n, _, i :: _) => mKn cc pc n .iload_n .iload i
  | (2, n, _, i :: _) => mKn cc pc n .aload_n .aload i
  | (3, n, _, i :: _) => mKn cc pc n .lload_n .lload i
  | (4, n, _, i :: _) => mKn cc pc n .istore_n .istore i
  | (5, n, _, i :: _) => mKn cc pc n .astore_n .astore i
  | (6, n, _, i :: _) => mKn cc pc n .lstore_n .lstore i
  | (7, n, v, i :: _) => mK7 cc pc n i v
  | (8, n, _, k :: _) => mK1 cc pc n (mIb k)
  | (9, n, _, k :: _) => mK1 cc pc n (match k with | 0 => .idiv | _ => .irem)
  | (10, n, _, k :: _) => mK1 cc pc n (match k with | 0 => .ineg | _ => .i2b)
  | (11, n, _, k :: _) => mK1 cc pc n (mIl k)
  | (12, n, _, _) => mK1 cc pc n .lcmp
  | (13, n, _, _) => mK1 cc pc n .i2l
  | (14, n, v, ps) => mK14 x cc pc n v ps
  | (15, n, _, _) => mK1 cc pc n .dup
  | (16, n, _, _) => mK1 cc pc n .dup2
  | (17, n, _, _) => mK1 cc pc n .pop
  | (18, n, _, k :: b :: _) => mK3 cc pc n (mIc k ((bp b : Int) - (pc : Int)))
  | (19, n, _, k :: b :: _) => mK3 cc pc n (mIf k ((bp b : Int) - (pc : Int)))
  | (20, n, _, b :: _) => mK3 cc pc n (.goto ((bp b : Int) - (pc : Int)))
  | (21, n, _, b :: _) => decide (bp b = pc)
  | (22, n, v, d :: ts) => mK22 cc pc n v.toInt (bp d : Int) ((ts.map bp).map (fun t : Nat => (t : Int)))
  | (23, n, v, d :: ps) => mK23 cc bp pc n v.toInt d ps
  | (24, n, _, ci :: k :: t :: ps) => mK24 x cc pc n ci k t ps
  | (25, n, _, ci :: k :: t :: ps) => mK25 x ini cc pc n ci k t ps
  | (26, n, _, t :: _) => mK26 cc pc n t
  | (27, n, _, t :: _) => mK27 cc pc n t
  | (28, n, _, _) => mK1 cc pc n .arraylength
  | (29, n, _, j :: na :: kind :: ci :: ps) => decide (j < 271 ∧ na = mNa j) && mK29 x cc pc n j na kind ci ps
  | (30, n, _, _) => mK1 cc pc n .ireturn
  | (31, n, _, _) => mK1 cc pc n .return_
  | (32, n, _, ps) => mKb x 0 cc pc n .invokestatic ps
  | (33, n, _, ps) => mKb x 1 cc pc n .invokestatic ps
  | (34, n, _, ps) => mKb x 2 cc pc n .invokespecial ps
  | (35, n, _, ci :: ps) => mK35 x cc pc n ci ps
  | (36, n, _, t :: _) => mK36 cc pc n t
  | (37, n, _, t :: ps) => mK37 x cc pc n t ps
  | (38, n, _, i :: ps) => mK38 x cc pc n i ps
  | (39, n, _, ps) => mKb x 3 cc pc n .invokevirtual ps
  | (40, n, _, ps) => mKb x 4 cc pc n .invokevirtual ps
  | _ => true
set_option maxHeartbeats 4000000 in
theorem sd_step {x : Nat} (S : CallFix p m c cc nL s args (mWS j) (mOwn x)) (hKs : mKs D ta ad0 A s) (hA : ∀ q, s.heap.size ≤ q → A q) {ini : Bool} (hini : ini = true → meth.name = "<init>") {rt : Option FieldType} (hrt : meth.sig.returnType = rt) (hlocks : meth.locks = false) {d : Nat} (hRf : d + 1 ≤ R.frames) (hRl : 30 * d + 30 ≤ R.locals) {call : Nat → List Value → mMH → Option Int32 → mMH → Prop} (hcall : ∀ (j' : Nat) (as : List Value) (σ : mMH) (r' : Option Int32) (σ' : mMH), j' < 271 → call j' as σ r' σ' → mMet l d j' as σ r' σ') (hdp : ∀ σ, call 303 [] σ none σ → 4 ≤ d) (hmok : ∀ j', j' < 271 → mMok j' (mNa j')) {r : Option Int32} {τ σ0 : mMH} {sz : Nat} (hRc : τ.2.1.length ≤ R.cells + n0) (hRs : τ.1 ≤ R.slots + s0) (hn0 : n0 = σ0.2.1.length) (hs0 : s0 = σ0.1) (hAe : A = va_A (mWs ta ad0 σ0) sz)
    (hQ : Q = MQ below (mQc D ta ad0 sz σ0 r τ) args s (τ.2.1.length - n0) (τ.1 - s0) (va_A (mWs ta ad0 σ0) sz)) {bp : Nat → Nat} {K : Nat → mL → List Value → mMH → Prop} (hK : ∀ b L st σ, K b L st σ → mG p l e R s m args below meth c D ta A ad0 n0 s0 nL Q (bp b) L st σ) {ri : mRI} (hck : mChkI x ini cc bp pc ri = true) {kk : mL → List Value → mMH → Prop} (hkk : ∀ L' st' σ', kk L' st' σ' → mG p l e R s m args below meth c D ta A ad0 n0 s0 nL Q (pc + ri.2.1) L' st' σ') (h : mStp call rt r τ K ri L st σ kk) : mG p l e R s m args below meth c D ta A ad0 n0 s0 nL Q pc L st σ := by
  unfold mStp at h
  split at h
  · exact sd_0 S hck (hkk _ _ _ h)
  · obtain ⟨x, h1, h2⟩ := h
    exact sd_1 S hck h1 (hkk _ _ _ h2)
  · obtain ⟨x, h1, h2⟩ := h
    exact sd_2 S hck h1 (hkk _ _ _ h2)
  · obtain ⟨x, h1, h2⟩ := h
    exact sd_3 S hck h1 (hkk _ _ _ h2)
  · obtain ⟨x, st', rfl, h1, h2, h3⟩ := h
    exact sd_4 S hck h1 h2 (hkk _ _ _ h3)
  · obtain ⟨x, st', rfl, h1, h2, h3⟩ := h
    exact sd_5 S hck h1 h2 (hkk _ _ _ h3)
  · obtain ⟨x, st', rfl, h1, h2, h3⟩ := h
    exact sd_6 S hck h1 h2 (hkk _ _ _ h3)
  · obtain ⟨x, h1, h2, h3⟩ := h
    exact sd_7 S hck h1 h2 (hkk _ _ _ h3)
  · obtain ⟨x, y, st', rfl, h1⟩ := h
    exact sd_8 S hck (hkk _ _ _ h1)
  · obtain ⟨x, y, st', rfl, h1, h2⟩ := h
    exact sd_9 S hck h1 (hkk _ _ _ h2)
  · obtain ⟨x, st', rfl, h1⟩ := h
    exact sd_10 S hck (hkk _ _ _ h1)
  · obtain ⟨x, y, st', rfl, h1⟩ := h
    exact sd_11 S hck (hkk _ _ _ h1)
  · obtain ⟨x, y, st', rfl, h1⟩ := h
    exact sd_12 S hck (hkk _ _ _ h1)
  · obtain ⟨x, st', rfl, h1⟩ := h
    exact sd_13 S hck (hkk _ _ _ h1)
  · exact sd_14 S hck (hkk _ _ _ h)
  · obtain ⟨v, st', rfl, h1, h2⟩ := h
    exact sd_15 S hck h1 (hkk _ _ _ h2)
  · obtain ⟨v, w, st', rfl, h1, h2, h3⟩ := h
    exact sd_16 S hck h1 h2 (hkk _ _ _ h3)
  · obtain ⟨v, st', rfl, h1, h2⟩ := h
    exact sd_17 S hck h1 (hkk _ _ _ h2)
  · obtain ⟨x, y, st', rfl, h1, h2⟩ := h
    exact sd_18 S hck (fun q => hK _ _ _ _ (h1 q)) (fun q => hkk _ _ _ (h2 q))
  · obtain ⟨x, st', rfl, h1, h2⟩ := h
    exact sd_19 S hck (fun q => hK _ _ _ _ (h1 q)) (fun q => hkk _ _ _ (h2 q))
  · exact sd_20 S hck (hK _ _ _ _ h)
  · have e := of_decide_eq_true hck
    rw [← e]
    exact hK _ _ _ _ h
  · obtain ⟨x, st', rfl, h1, h2⟩ := h
    refine sd_22 S hck (fun q => hK _ _ _ _ (h1 (by simpa using q))) (fun q t ht hx => ?_)
    rw [List.getElem?_map] at ht
    obtain ⟨b, hb, rfl⟩ := Option.map_eq_some_iff.mp ht
    exact hK _ _ _ _ (h2 q b hb hx)
  · obtain ⟨x, st', rfl, h1⟩ := h
    exact sd_23 S hck (hK _ _ _ _ h1)
  · obtain ⟨o, st', rfl, h1, h2⟩ := h
    exact sd_24 S hKs.1 hck h1 (hkk _ _ _ h2)
  · obtain ⟨o, v, st', rfl, h1, h2⟩ := h
    refine sd_25 S hKs.1 hini hck h1 ?_
    unfold mPut at h2 ⊢
    split at h2
    · obtain ⟨q, e, k⟩ := h2
      exact ⟨q, e, hkk _ _ _ k⟩
    · obtain ⟨q, e, k⟩ := h2
      exact ⟨q, e, hkk _ _ _ k⟩
    · obtain ⟨q, e, e2, k⟩ := h2
      exact ⟨q, e, e2, hkk _ _ _ k⟩
    · obtain ⟨q, e, k⟩ := h2
      exact ⟨q, e, hkk _ _ _ k⟩
  · obtain ⟨i, o, kd, n, st', rfl, h1, h2, h3, h4⟩ := h
    exact sd_26 S hKs.1 hck h1 h2 h3 (hkk _ _ _ h4)
  · obtain ⟨i, o, n, x, st', rfl, h1, h2, h3⟩ := h
    exact sd_27l S hKs.1 hck h1 h2 (hkk _ _ _ h3)
  · obtain ⟨i, o, kd, n, a, st', rfl, h1, h2, h3, h4, h5⟩ := h
    exact sd_27r S hKs.1 hck h1 h2 h3 h4 (hkk _ _ _ h5)
  · obtain ⟨i, o, kd, n, x, st', rfl, h1, h2, h3, h4, h5⟩ := h
    exact sd_27i S hKs.1 hck h1 h2 h3 h4 (hkk _ _ _ h5)
  · obtain ⟨o, kd, n, st', rfl, h1, h2, h3, h4⟩ := h
    exact sd_28 S hKs.1 hck h1 h2 h3 (hkk _ _ _ h4)
  · obtain ⟨as, st', rfl, h1, h2, h3, h4, r', σ', h5, h6, h7, h8, h9⟩ := h
    have hck' := (Bool.and_eq_true _ _).mp hck
    obtain ⟨e1, rfl⟩ := of_decide_eq_true hck'.1
    exact sd_29 S hKs hA hRf hRl hck'.2 (hmok _ e1) (hcall _ _ _ _ _ e1 h5) h1 h2 h3 h4 (Nat.le_trans h7.2.1 hRc) (Nat.le_trans h7.1 hRs) h6 h8 (hkk _ _ _ h9)
  · obtain ⟨x, rfl, rfl, h1, rfl⟩ := h
    exact sd_30 S hrt hlocks hck h1 hn0 hs0 hAe hQ
  · obtain ⟨rfl, rfl, h1, rfl⟩ := h
    exact sd_31 S hrt hlocks hck h1 hn0 hs0 hAe hQ
  · obtain ⟨n, dp, sp, d0, s1, kd, l0, l1, st', rfl, h1, h2, h3, h4, h5, h6, h7, h8, h9, h10, h11, h12⟩ := h
    exact sd_32 S hKs.1 (by omega) (by omega) hck h1 h2 h3 h4 h5 h6 h7 h8 h9 h10 h11 (hkk _ _ _ h12)
  · obtain ⟨x, y, st', rfl, h1, h2, h3⟩ := h
    exact sd_33 S (by omega) (by omega) (Nat.le_trans h2.2.1 hRc) (Nat.le_trans h2.1 hRs) hck h1 (hkk _ _ _ h3)
  · obtain ⟨o, st', rfl, h1, h2⟩ := h
    exact sd_34 S (by omega) (by omega) hck h1 (hkk _ _ _ h2)
  · obtain ⟨h1, h2, h3, h4⟩ := h
    have e := h3.2.1
    simp only [mNew, List.length_append, List.length_cons, List.length_nil] at e
    exact sd_35 S hKs.1 hA hck (by omega) (Nat.le_trans h3.1 hRs) h1 h2 (hkk _ _ _ h4)
  · obtain ⟨n, st', rfl, h1, h2, h3, h4, h5, h6⟩ := h
    have e := h5.2.1
    simp only [mNew, List.length_append, List.length_cons, List.length_nil] at e
    exact sd_36 S hKs.1 hA hck h3 h4 (by omega) (Nat.le_trans h5.1 hRs) h1 h2 (hkk _ _ _ h6)
  · obtain ⟨n, st', rfl, h1, h2, h3, h4, h5, h6⟩ := h
    have e := h5.2.1
    simp only [mNew, List.length_append, List.length_cons, List.length_nil] at e
    exact sd_37 S hKs hA hck h3 h4 (by omega) (Nat.le_trans h5.1 hRs) h1 h2 (hkk _ _ _ h6)
  · obtain ⟨h1, h3, h2⟩ := h
    exact sd_38 S hKs hck (Nat.le_trans h3.2.1 h3.2.2) (hkk _ _ _ h2)
  · obtain ⟨i, st', rfl, h1, h2, h3, h4, h5⟩ := h
    have h6 := hdp _ h4
    exact sd_39 S hKs (by omega) (by omega) hck h1 (Nat.le_trans h3.2.1 hRc) (Nat.le_trans h3.1 hRs) (Nat.le_trans h3.2.1 h3.2.2) h2 (hkk _ _ _ h5)
  · obtain ⟨i, k, st', rfl, h1, h2, h3, h4, h5, h6⟩ := h
    have h7 := hdp _ h5
    exact sd_40 S hKs (by omega) (by omega) hck h1 h2 (Nat.le_trans h4.2.1 hRc) (Nat.le_trans h4.1 hRs) (Nat.le_trans h4.2.1 h4.2.2) h3 (hkk _ _ _ h6)
  · cases h
def mChkB (x : Nat) (ini : Bool) (cc : ByteArray) (bp : Nat → Nat) : Nat → List mRI → Bool
  | _, [] => true
  | pc, ri :: rest => mChkI x ini cc bp pc ri && mChkB x ini cc bp (pc + ri.2.1) rest
def mBp (cd : List mBk) (b : Nat) : Nat := (cd.getD b (0, [])).1
def mChkM (j : Nat) : Bool := (mt j).2.2.2.2.2.2.all (fun bk => mChkB (mCi j) (decide ((mt j).2.2.2.2.2.1 = 2)) (mt j).2.2.1 (mBp (mt j).2.2.2.2.2.2) bk.1 bk.2) && decide (mBp (mt j).2.2.2.2.2.2 0 = 0)
theorem sd_exb {x : Nat} (S : CallFix p m c cc nL s args (mWS j) (mOwn x)) (hKs : mKs D ta ad0 A s) (hA : ∀ q, s.heap.size ≤ q → A q) {ini : Bool} (hini : ini = true → meth.name = "<init>") {rt : Option FieldType} (hrt : meth.sig.returnType = rt) (hlocks : meth.locks = false) {d : Nat} (hRf : d + 1 ≤ R.frames) (hRl : 30 * d + 30 ≤ R.locals) {call : Nat → List Value → mMH → Option Int32 → mMH → Prop} (hcall : ∀ (j' : Nat) (as : List Value) (σ : mMH) (r' : Option Int32) (σ' : mMH), j' < 271 → call j' as σ r' σ' → mMet l d j' as σ r' σ') (hdp : ∀ σ, call 303 [] σ none σ → 4 ≤ d) (hmok : ∀ j', j' < 271 → mMok j' (mNa j')) {r : Option Int32} {τ σ0 : mMH} {sz : Nat} (hRc : τ.2.1.length ≤ R.cells + n0) (hRs : τ.1 ≤ R.slots + s0) (hn0 : n0 = σ0.2.1.length) (hs0 : s0 = σ0.1) (hAe : A = va_A (mWs ta ad0 σ0) sz)
    (hQ : Q = MQ below (mQc D ta ad0 sz σ0 r τ) args s (τ.2.1.length - n0) (τ.1 - s0) (va_A (mWs ta ad0 σ0) sz)) {bp : Nat → Nat} {K : Nat → mL → List Value → mMH → Prop} (hK : ∀ b L st σ, K b L st σ → mG p l e R s m args below meth c D ta A ad0 n0 s0 nL Q (bp b) L st σ) : ∀ (is : List mRI) (pc : Nat) (L : mL) (st : List Value) (σ : mMH), mChkB x ini cc bp pc is = true → mExb call rt r τ K is L st σ → mG p l e R s m args below meth c D ta A ad0 n0 s0 nL Q pc L st σ
  | [], _, _, _, _, _, h => h.elim
  | ri :: rest, pc, L, st, σ, hck, h => by
    have hck := (Bool.and_eq_true _ _).mp hck
    exact sd_step S hKs hA hini hrt hlocks hRf hRl hcall hdp hmok hRc hRs hn0 hs0 hAe hQ hK hck.1 (fun L' st' σ' h' => sd_exb S hKs hA hini hrt hlocks hRf hRl hcall hdp hmok hRc hRs hn0 hs0 hAe hQ hK rest _ L' st' σ' hck.2 h') h
theorem sd_wp {x : Nat} (S : CallFix p m c cc nL s args (mWS j) (mOwn x)) (hKs : mKs D ta ad0 A s) (hA : ∀ q, s.heap.size ≤ q → A q) {ini : Bool} (hini : ini = true → meth.name = "<init>") {rt : Option FieldType} (hrt : meth.sig.returnType = rt) (hlocks : meth.locks = false) {d : Nat} (hRf : d + 1 ≤ R.frames) (hRl : 30 * d + 30 ≤ R.locals) {call : Nat → List Value → mMH → Option Int32 → mMH → Prop} (hcall : ∀ (j' : Nat) (as : List Value) (σ : mMH) (r' : Option Int32) (σ' : mMH), j' < 271 → call j' as σ r' σ' → mMet l d j' as σ r' σ') (hdp : ∀ σ, call 303 [] σ none σ → 4 ≤ d) (hmok : ∀ j', j' < 271 → mMok j' (mNa j')) {r : Option Int32} {τ σ0 : mMH} {sz : Nat} (hRc : τ.2.1.length ≤ R.cells + n0) (hRs : τ.1 ≤ R.slots + s0) (hn0 : n0 = σ0.2.1.length) (hs0 : s0 = σ0.1) (hAe : A = va_A (mWs ta ad0 σ0) sz)
    (hQ : Q = MQ below (mQc D ta ad0 sz σ0 r τ) args s (τ.2.1.length - n0) (τ.1 - s0) (va_A (mWs ta ad0 σ0) sz)) {cd : List mBk} (hck : cd.all (fun bk => mChkB x ini cc (mBp cd) bk.1 bk.2) = true) : ∀ (n b : Nat) (L : mL) (st : List Value) (σ : mMH), mWp call cd rt r τ n b L st σ → mG p l e R s m args below meth c D ta A ad0 n0 s0 nL Q (mBp cd b) L st σ
  | 0, _, _, _, _, h => h.elim
  | n + 1, b, L, st, σ, h => by
    have h : mExb call rt r τ (mWp call cd rt r τ n) (cd.getD b (0, [])).2 L st σ := h
    refine sd_exb S hKs hA hini hrt hlocks hRf hRl hcall hdp hmok hRc hRs hn0 hs0 hAe hQ (bp := mBp cd) (fun b L st σ h => sd_wp S hKs hA hini hrt hlocks hRf hRl hcall hdp hmok hRc hRs hn0 hs0 hAe hQ hck n b L st σ h) _ _ L st σ ?_ h
    unfold mBp
    rw [List.getD_eq_getElem?_getD]
    cases hb : cd[b]? with
    | none => rfl
    | some bk => exact List.all_eq_true.mp hck bk (List.mem_of_getElem? hb)
theorem mArg_in {ad : Nat → Nat} : ∀ (vs : List Value) (k i : Nat) (v : Value), (∀ v ∈ vs, v.category = 1) → vs[i]? = some v → (k + i, mCv ad v) ∈ lv_args k (vs.map (mCv ad))
  | [], _, _, _, _, h => by cases h
  | w :: vs, k, 0, v, hc, h => by
    cases h
    exact List.mem_cons_self
  | w :: vs, k, i + 1, v, hc, h => by
    have h1 : ¬ (mCv ad w).category = 2 := by
      rw [mCv_cat, hc w List.mem_cons_self]
      decide
    have h2 := mArg_in (ad := ad) vs (k + 1) i v (fun v hv => hc v (List.mem_cons_of_mem _ hv)) h
    refine List.mem_cons_of_mem _ ?_
    rw [if_neg h1, show k + (i + 1) = k + 1 + i by omega]
    exact h2
theorem mArg_sl {ad : Nat → Nat} : ∀ (vs : List Value), (∀ v ∈ vs, v.category = 1) → (lg_sl (vs.map (mCv ad))).length = vs.length
  | [], _ => rfl
  | w :: vs, hc => by
    have h1 : ¬ (mCv ad w).category = 2 := by
      rw [mCv_cat, hc w List.mem_cons_self]
      decide
    have h2 := mArg_sl (ad := ad) vs (fun v hv => hc v (List.mem_cons_of_mem _ hv))
    unfold lg_sl at h2 ⊢
    rw [List.map_cons, List.flatMap_cons, if_neg h1, List.length_append, h2, List.length_cons, List.length_cons, List.length_nil]
    omega
theorem mArgs_get {as : List Value} {n i : Nat} {v : Value} (h : (mArgs as n)[i]? = some (some v)) : as[i]? = some v := by
  unfold mArgs at h
  by_cases hi : i < (as.map some).length
  · rw [List.getElem?_append_left hi, List.getElem?_map] at h
    obtain ⟨w, h1, h2⟩ := Option.map_eq_some_iff.mp h
    cases h2
    exact h1
  · rw [List.getElem?_append_right (by omega)] at h
    have h2 := List.mem_of_getElem? h
    rw [List.mem_replicate] at h2
    cases h2.2
theorem mCall_dp : ∀ {d : Nat} {σ : mMH}, mCall d 303 [] σ none σ → 4 ≤ d
  | 0, _, h => h.elim
  | d + 1, _, h => by
    rcases h with h | ⟨-, -, -, n, h⟩
    · omega
    · cases n with
      | zero => exact h.elim
      | succ n => exact h.elim
theorem mMet_step {d : Nat} (hcall : ∀ (j' : Nat) (as : List Value) (σ : mMH) (r' : Option Int32) (σ' : mMH), j' < 271 → mCall d j' as σ r' σ' → mMet l d j' as σ r' σ') (hmok : ∀ j', j' < 271 → mMok j' (mNa j')) (hchk : ∀ j', j' < 271 → mChkM j' = true) {j : Nat} (hj : j < 271) {as : List Value} {σ τ : mMH} {r : Option Int32} (h : mCall (d + 1) j as σ r τ) : mMet l (d + 1) j as σ r τ := by
  intro D ta ad sz
  have h := h.resolve_left (by omega)
  obtain ⟨hc1, hlen, hle, n, hw⟩ := h
  refine Met.ofW (cc := (mt j).2.2.1) (maxL := (mt j).2.2.2.1) (ret := (mt j).2.2.2.2.1) (hmok j hj).2.2.2.2.1 rfl ?_
  intro p e s m args below meth c s₁ B hml hv
  obtain ⟨rfl, hsz, hP, hKs, hD0⟩ := hv
  have S : CallFix p m c (mt j).2.2.1 (mt j).2.2.2.1 s (as.map (mCv ad)).toArray (mWS j) (mOwn (mCi j)) := ⟨B.exec, B.bytes, hml, by rw [(hmok j hj).2.2.2.2.2.2]; exact findClass_of_methodNamed B.named, atoms_spec (ws := mWS j) B.pre⟩
  have hA : ∀ q, s.heap.size ≤ q → va_A (mWs ta ad σ) sz q := fun q h => Or.inr (by rw [← hsz]; exact h)
  have hck := (Bool.and_eq_true _ _).mp (hchk j hj)
  have hb0 : mBp (mt j).2.2.2.2.2.2 0 = 0 := of_decide_eq_true hck.2
  have main := sd_wp (Q := MQ below (mQc D ta ad sz σ r τ) (as.map (mCv ad)).toArray s (τ.2.1.length - σ.2.1.length) (τ.1 - σ.1) (va_A (mWs ta ad σ) sz)) (R := (headSpec (mWS j) (mRm (d + 1) (τ.2.1.length - σ.2.1.length) (τ.1 - σ.1))).room) (l := l) (e := e) (below := below) S hKs hA (ini := decide ((mt j).2.2.2.2.2.1 = 2)) (fun q => (name_of_methodNamed B.named B.method).1.trans (by have h := (hmok j hj).2.2.2.2.2.1; rw [of_decide_eq_true q] at h; exact h.2.1)) B.returns B.notSynchronized (d := d) (Nat.le_refl _) (by show 30 * d + 30 ≤ 30 * (d + 1); omega) hcall (fun _ => mCall_dp) hmok (τ := τ) (σ0 := σ) (sz := sz) (by show _ ≤ τ.2.1.length - σ.2.1.length + σ.2.1.length; omega) (by show _ ≤ τ.1 - σ.1 + σ.1; omega) rfl rfl rfl rfl hck.1 n 0 _ _ _ hw
  rw [hb0] at main
  rw [lg_entry_eq]
  have he := lv_entry (as.map (mCv ad)) (n := (mt j).2.2.2.1) (by rw [mArg_sl as hc1]; exact hlen)
  refine main ad s.heap [] _ 0 0 (fun _ _ => rfl) (Nat.zero_add _) (Nat.zero_add _) hP hD0.self va_S.rf ?_ (lv_has_of he (fun q hq => ?_))
  · unfold mArgs
    rw [List.length_append, List.length_map, List.length_replicate]
    omega
  · obtain ⟨v, h1, h2⟩ := mLp_mem.mp hq
    have h3 := mArg_in (ad := ad) as 0 q.1 v hc1 (mArgs_get h1)
    rw [Nat.zero_add, ← h2] at h3
    exact h3
/-- THE STEP MACHINE IS SOUND -/
theorem mMet_all (hmok : ∀ j', j' < 271 → mMok j' (mNa j')) (hchk : ∀ j', j' < 271 → mChkM j' = true) : ∀ (d j : Nat) (as : List Value) (σ : mMH) (r : Option Int32) (τ : mMH), j < 271 → mCall d j as σ r τ → mMet l d j as σ r τ
  | 0, _, _, _, _, _, _, h => h.elim
  | d + 1, _, _, _, _, _, hj, h => mMet_step (fun j' as σ r' σ' hj' h' => mMet_all hmok hchk d j' as σ r' σ' hj' h') hmok hchk hj h
end MSND
