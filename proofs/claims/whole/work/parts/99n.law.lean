/-! THE LAW: its own walk over the numbered heap; what has been made may be more than what is numbered (GENERATED, wip/gen/p/99n.py) -/
def lG (p : Program) (l : Launch) (e : Env) (R : Room) (s : State) (m : MethodId) (args : Array Value) (below : List Frame) (meth : Method) (c : Code) (D : va_G) (ta : Nat → ClassId) (A : Nat → Prop) (ad0 : Nat → Nat) (n0 s0 nL : Nat) (Q : State → Prop) (pc : Nat) (L : mL) (st : List Value) (σ : mMH) : Prop :=
  ∀ (ad : Nat → Nat) (H : Heap) (locs : List Loc) (ls : Array Slot) (cells slots : Nat), mAgr ad0 ad 0 σ.2.1.length → cells ≤ n0 → slots ≤ s0 →
    va_P D mCL (mWs ta ad σ) H → va_D A (mWs ta ad σ) → va_S A s.heap H locs → L.length = nL → lv_has ls nL (mLp ad L) →
    W p l e R s m args below meth c H locs cells slots Q (F0 m pc ls (st.map (mCv ad)))
section LSND
variable {p : Program} {l : Launch} {e : Env} {R : Room} {s : State} {m : MethodId} {args : Array Value} {below : List Frame} {meth : Method} {c : Code} {cc : ByteArray} {D : va_G} {ta : Nat → ClassId} {A : Nat → Prop} {ad0 : Nat → Nat} {n0 s0 nL : Nat} {Q : State → Prop} {pc j len : Nat} {L : mL} {st : List Value} {σ : mMH} {own : String}
theorem sl_0 (S : CallFix p m c cc nL s args (mWS j) own) {v : Int32} (hck : mK0 cc pc len v = true) (k : lG p l e R s m args below meth c D ta A ad0 n0 s0 nL Q (pc + len) L (.int v :: st) σ) : lG p l e R s m args below meth c D ta A ad0 n0 s0 nL Q pc L st σ := by
  simp only [mK0, Bool.or_eq_true, Bool.and_eq_true, beq_iff_eq, decide_eq_true_eq] at hck
  intro ad H locs ls cells slots a1 a2 a3 a4 a5 a6 a7 a8
  rcases hck with ⟨rfl, h⟩ | ⟨rfl, h, h2⟩ | ⟨rfl, h, h2⟩
  · exact lv_iconst S.1 S.2.1 (mDc_ok h) (Int32.ofInt_toInt v) (k ad H locs ls cells slots a1 a2 a3 a4 a5 a6 a7 a8)
  · exact lv_bipush S.1 S.2.1 (mDc_ok h) h2 (k ad H locs ls cells slots a1 a2 a3 a4 a5 a6 a7 a8)
  · exact lv_sipush S.1 S.2.1 (mDc_ok h) h2 (k ad H locs ls cells slots a1 a2 a3 a4 a5 a6 a7 a8)
theorem sl_1 (S : CallFix p m c cc nL s args (mWS j) own) {i : Nat} {x : Int32} (hck : mKn cc pc len .iload_n .iload i = true) (hl : L[i]? = some (some (.int x))) (k : lG p l e R s m args below meth c D ta A ad0 n0 s0 nL Q (pc + len) L (.int x :: st) σ) : lG p l e R s m args below meth c D ta A ad0 n0 s0 nL Q pc L st σ := by
  simp only [mKn, Bool.or_eq_true, Bool.and_eq_true, beq_iff_eq, decide_eq_true_eq] at hck
  intro ad H locs ls cells slots a1 a2 a3 a4 a5 a6 a7 a8
  rcases hck with ⟨rfl, h1, h⟩ | ⟨rfl, h⟩
  · exact lv_iload_n S.1 S.2.1 (mDc_ok h) (Nat.mod_eq_of_lt h1) (mLp_at a8 hl) (k ad H locs ls cells slots a1 a2 a3 a4 a5 a6 a7 a8)
  · exact lv_iload S.1 S.2.1 (mDc_ok h) (mLp_at a8 hl) (k ad H locs ls cells slots a1 a2 a3 a4 a5 a6 a7 a8)
theorem sl_2 (S : CallFix p m c cc nL s args (mWS j) own) {i : Nat} {x : Nat} (hck : mKn cc pc len .aload_n .aload i = true) (hl : L[i]? = some (some (.ref x))) (k : lG p l e R s m args below meth c D ta A ad0 n0 s0 nL Q (pc + len) L (.ref x :: st) σ) : lG p l e R s m args below meth c D ta A ad0 n0 s0 nL Q pc L st σ := by
  simp only [mKn, Bool.or_eq_true, Bool.and_eq_true, beq_iff_eq, decide_eq_true_eq] at hck
  intro ad H locs ls cells slots a1 a2 a3 a4 a5 a6 a7 a8
  rcases hck with ⟨rfl, h1, h⟩ | ⟨rfl, h⟩
  · exact lv_aload_n S.1 S.2.1 (mDc_ok h) (Nat.mod_eq_of_lt h1) (mLp_at a8 hl) (k ad H locs ls cells slots a1 a2 a3 a4 a5 a6 a7 a8)
  · exact lv_aload S.1 S.2.1 (mDc_ok h) (mLp_at a8 hl) (k ad H locs ls cells slots a1 a2 a3 a4 a5 a6 a7 a8)
theorem sl_4 (S : CallFix p m c cc nL s args (mWS j) own) {i : Nat} {x : Int32} (hck : mKn cc pc len .istore_n .istore i = true) (hi : i < L.length) (hN : mNL L i = true) (k : lG p l e R s m args below meth c D ta A ad0 n0 s0 nL Q (pc + len) (L.set i (some (.int x))) st σ) : lG p l e R s m args below meth c D ta A ad0 n0 s0 nL Q pc L (.int x :: st) σ := by
  simp only [mKn, Bool.or_eq_true, Bool.and_eq_true, beq_iff_eq, decide_eq_true_eq] at hck
  intro ad H locs ls cells slots a1 a2 a3 a4 a5 a6 a7 a8
  rcases hck with ⟨rfl, h1, h⟩ | ⟨rfl, h⟩
  · exact lv_istore_n S.1 S.2.1 (mDc_ok h) (Nat.mod_eq_of_lt h1) a8 (a7 ▸ hi) rfl (fun ls' h8 => k ad H locs ls' cells slots a1 a2 a3 a4 a5 a6 (by rw [List.length_set]; exact a7) (lv_has_of h8 (mLp_set1 hN hi)))
  · exact lv_istore S.1 S.2.1 (mDc_ok h) a8 (a7 ▸ hi) rfl (fun ls' h8 => k ad H locs ls' cells slots a1 a2 a3 a4 a5 a6 (by rw [List.length_set]; exact a7) (lv_has_of h8 (mLp_set1 hN hi)))
theorem sl_5 (S : CallFix p m c cc nL s args (mWS j) own) {i : Nat} {x : Nat} (hck : mKn cc pc len .astore_n .astore i = true) (hi : i < L.length) (hN : mNL L i = true) (k : lG p l e R s m args below meth c D ta A ad0 n0 s0 nL Q (pc + len) (L.set i (some (.ref x))) st σ) : lG p l e R s m args below meth c D ta A ad0 n0 s0 nL Q pc L (.ref x :: st) σ := by
  simp only [mKn, Bool.or_eq_true, Bool.and_eq_true, beq_iff_eq, decide_eq_true_eq] at hck
  intro ad H locs ls cells slots a1 a2 a3 a4 a5 a6 a7 a8
  rcases hck with ⟨rfl, h1, h⟩ | ⟨rfl, h⟩
  · exact lv_astore_n S.1 S.2.1 (mDc_ok h) (Nat.mod_eq_of_lt h1) a8 (a7 ▸ hi) rfl (fun ls' h8 => k ad H locs ls' cells slots a1 a2 a3 a4 a5 a6 (by rw [List.length_set]; exact a7) (lv_has_of h8 (mLp_set1 (v := .ref x) hN hi)))
  · exact lv_astore S.1 S.2.1 (mDc_ok h) a8 (a7 ▸ hi) rfl (fun ls' h8 => k ad H locs ls' cells slots a1 a2 a3 a4 a5 a6 (by rw [List.length_set]; exact a7) (lv_has_of h8 (mLp_set1 (v := .ref x) hN hi)))
theorem sl_7 (S : CallFix p m c cc nL s args (mWS j) own) {i : Nat} {x v : Int32} (hck : mK7 cc pc len i v = true) (hl : L[i]? = some (some (.int x))) (hN : mNL L i = true) (k : lG p l e R s m args below meth c D ta A ad0 n0 s0 nL Q (pc + len) (L.set i (some (.int (x + v)))) st σ) : lG p l e R s m args below meth c D ta A ad0 n0 s0 nL Q pc L st σ := by
  simp only [mK7, Bool.and_eq_true, beq_iff_eq, decide_eq_true_eq] at hck
  intro ad H locs ls cells slots a1 a2 a3 a4 a5 a6 a7 a8
  obtain ⟨rfl, h1, h⟩ := hck
  have hi : i < L.length := (List.getElem?_eq_some_iff.mp hl).1
  obtain ⟨q, hq⟩ := mLp_place (ad := ad) hl
  exact lv_iinc (v := x + v) S.1 S.2.1 (mDc_ok h) a8 (k := q) hq (by rw [Int32.ofInt_toInt]) (a7 ▸ hi) rfl (fun ls' h8 => k ad H locs ls' cells slots a1 a2 a3 a4 a5 a6 (by rw [List.length_set]; exact a7) (lv_has_of h8 (mLp_set1 (v := .int (x + v)) hN hi)))
theorem sl_8 (S : CallFix p m c cc nL s args (mWS j) own) {b : Nat} {x y : Int32} (hck : mK1 cc pc len (mIb b) = true) (k : lG p l e R s m args below meth c D ta A ad0 n0 s0 nL Q (pc + len) L (.int (mBin b x y) :: st) σ) : lG p l e R s m args below meth c D ta A ad0 n0 s0 nL Q pc L (.int y :: .int x :: st) σ := by
  simp only [mK1, Bool.and_eq_true, beq_iff_eq] at hck
  obtain ⟨rfl, h⟩ := hck
  have h := mDc_ok h
  intro ad H locs ls cells slots a1 a2 a3 a4 a5 a6 a7 a8
  have k := k ad H locs ls cells slots a1 a2 a3 a4 a5 a6 a7 a8
  match b, h, k with
  | 0, h, k => exact lv_iadd S.1 S.2.1 h k
  | 1, h, k => exact lv_isub S.1 S.2.1 h k
  | 2, h, k => exact lv_imul S.1 S.2.1 h k
  | 3, h, k => exact lv_iand S.1 S.2.1 h k
  | 4, h, k => exact lv_ishr S.1 S.2.1 h k
  | n + 5, h, k => exact lv_iushr S.1 S.2.1 h rfl k
theorem sl_12 (S : CallFix p m c cc nL s args (mWS j) own) {x y : Int64} (hck : mK1 cc pc len .lcmp = true) (k : lG p l e R s m args below meth c D ta A ad0 n0 s0 nL Q (pc + len) L (.int (lg_cmp x y) :: st) σ) : lG p l e R s m args below meth c D ta A ad0 n0 s0 nL Q pc L (.long y :: .long x :: st) σ := by
  simp only [mK1, Bool.and_eq_true, beq_iff_eq] at hck
  obtain ⟨rfl, h⟩ := hck
  intro ad H locs ls cells slots a1 a2 a3 a4 a5 a6 a7 a8
  exact W.lcmp S.1 S.2.1 (mDc_ok h) (k ad H locs ls cells slots a1 a2 a3 a4 a5 a6 a7 a8)
theorem sl_13 (S : CallFix p m c cc nL s args (mWS j) own) {x : Int32} (hck : mK1 cc pc len .i2l = true) (k : lG p l e R s m args below meth c D ta A ad0 n0 s0 nL Q (pc + len) L (.long x.toInt64 :: st) σ) : lG p l e R s m args below meth c D ta A ad0 n0 s0 nL Q pc L (.int x :: st) σ := by
  simp only [mK1, Bool.and_eq_true, beq_iff_eq] at hck
  obtain ⟨rfl, h⟩ := hck
  intro ad H locs ls cells slots a1 a2 a3 a4 a5 a6 a7 a8
  exact lv_i2l S.1 S.2.1 (mDc_ok h) rfl (k ad H locs ls cells slots a1 a2 a3 a4 a5 a6 a7 a8)
theorem sl_15 (S : CallFix p m c cc nL s args (mWS j) own) {v : Value} (hck : mK1 cc pc len .dup = true) (hv : v.category = 1) (k : lG p l e R s m args below meth c D ta A ad0 n0 s0 nL Q (pc + len) L (v :: v :: st) σ) : lG p l e R s m args below meth c D ta A ad0 n0 s0 nL Q pc L (v :: st) σ := by
  simp only [mK1, Bool.and_eq_true, beq_iff_eq] at hck
  obtain ⟨rfl, h⟩ := hck
  intro ad H locs ls cells slots a1 a2 a3 a4 a5 a6 a7 a8
  exact lv_dup S.1 S.2.1 (mDc_ok h) ((mCv_cat ad v).trans hv) (k ad H locs ls cells slots a1 a2 a3 a4 a5 a6 a7 a8)
theorem sl_18 (S : CallFix p m c cc nL s args (mWS j) own) {b tgt : Nat} {x y : Int32} (hck : mK3 cc pc len (mIc b ((tgt : Int) - (pc : Int))) = true) (kt : mCmp b x y → lG p l e R s m args below meth c D ta A ad0 n0 s0 nL Q tgt L st σ) (kf : ¬ mCmp b x y → lG p l e R s m args below meth c D ta A ad0 n0 s0 nL Q (pc + len) L st σ) : lG p l e R s m args below meth c D ta A ad0 n0 s0 nL Q pc L (.int y :: .int x :: st) σ := by
  simp only [mK3, Bool.and_eq_true, beq_iff_eq] at hck
  obtain ⟨rfl, h⟩ := hck
  have h := mDc_ok h
  intro ad H locs ls cells slots a1 a2 a3 a4 a5 a6 a7 a8
  have kt := fun q => kt q ad H locs ls cells slots a1 a2 a3 a4 a5 a6 a7 a8
  have kf := fun q => kf q ad H locs ls cells slots a1 a2 a3 a4 a5 a6 a7 a8
  match b, h, kt, kf with
  | 0, h, kt, kf => exact lv_icmp_eq S.1 S.2.1 h (mOff pc tgt) kt kf
  | 1, h, kt, kf => exact lv_icmp_ne S.1 S.2.1 h (mOff pc tgt) kt (fun q => kf (fun z => z q))
  | 2, h, kt, kf => exact lv_icmp_lt S.1 S.2.1 h (mOff pc tgt) kt kf
  | 3, h, kt, kf => exact lv_icmp_ge S.1 S.2.1 h (mOff pc tgt) kt kf
  | 4, h, kt, kf => exact lv_icmp_gt S.1 S.2.1 h (mOff pc tgt) kt kf
  | n + 5, h, kt, kf => exact lv_icmp_le S.1 S.2.1 h (mOff pc tgt) kt kf
theorem sl_19 (S : CallFix p m c cc nL s args (mWS j) own) {b tgt : Nat} {x : Int32} (hck : mK3 cc pc len (mIf b ((tgt : Int) - (pc : Int))) = true) (kt : mCmp b x 0 → lG p l e R s m args below meth c D ta A ad0 n0 s0 nL Q tgt L st σ) (kf : ¬ mCmp b x 0 → lG p l e R s m args below meth c D ta A ad0 n0 s0 nL Q (pc + len) L st σ) : lG p l e R s m args below meth c D ta A ad0 n0 s0 nL Q pc L (.int x :: st) σ := by
  simp only [mK3, Bool.and_eq_true, beq_iff_eq] at hck
  obtain ⟨rfl, h⟩ := hck
  have h := mDc_ok h
  intro ad H locs ls cells slots a1 a2 a3 a4 a5 a6 a7 a8
  have kt := fun q => kt q ad H locs ls cells slots a1 a2 a3 a4 a5 a6 a7 a8
  have kf := fun q => kf q ad H locs ls cells slots a1 a2 a3 a4 a5 a6 a7 a8
  match b, h, kt, kf with
  | 0, h, kt, kf => exact lv_if_eq S.1 S.2.1 h (mOff pc tgt) kt kf
  | 1, h, kt, kf => exact lv_if_ne S.1 S.2.1 h (mOff pc tgt) kt (fun q => kf (fun z => z q))
  | 2, h, kt, kf => exact lv_if_lt S.1 S.2.1 h (mOff pc tgt) kt kf
  | 3, h, kt, kf => exact lv_if_ge S.1 S.2.1 h (mOff pc tgt) kt kf
  | 4, h, kt, kf => exact lv_if_gt S.1 S.2.1 h (mOff pc tgt) kt kf
  | n + 5, h, kt, kf => exact lv_if_le S.1 S.2.1 h (mOff pc tgt) kt kf
theorem sl_20 (S : CallFix p m c cc nL s args (mWS j) own) {tgt : Nat} (hck : mK3 cc pc len (.goto ((tgt : Int) - (pc : Int))) = true) (k : lG p l e R s m args below meth c D ta A ad0 n0 s0 nL Q tgt L st σ) : lG p l e R s m args below meth c D ta A ad0 n0 s0 nL Q pc L st σ := by
  simp only [mK3, Bool.and_eq_true, beq_iff_eq] at hck
  obtain ⟨rfl, h⟩ := hck
  intro ad H locs ls cells slots a1 a2 a3 a4 a5 a6 a7 a8
  exact lv_goto S.1 S.2.1 (mDc_ok h) (mOff pc tgt) (k ad H locs ls cells slots a1 a2 a3 a4 a5 a6 a7 a8)
theorem sl_22 (S : CallFix p m c cc nL s args (mWS j) own) {d : Nat} {ts : List Nat} {x lo : Int32} (hck : mK22 cc pc len lo.toInt (d : Int) (ts.map (fun t : Nat => (t : Int))) = true) (kd : (x.toInt < lo.toInt ∨ lo.toInt + ts.length ≤ x.toInt) → lG p l e R s m args below meth c D ta A ad0 n0 s0 nL Q d L st σ) (kt : ∀ q t : Nat, ts[q]? = some t → x.toInt = lo.toInt + q → lG p l e R s m args below meth c D ta A ad0 n0 s0 nL Q t L st σ) : lG p l e R s m args below meth c D ta A ad0 n0 s0 nL Q pc L (.int x :: st) σ := by
  simp only [mK22, Bool.and_eq_true, Bool.not_eq_true', List.length_map, List.map_map] at hck
  have h := mDc_ok hck.2
  intro ad H locs ls cells slots a1 a2 a3 a4 a5 a6 a7 a8
  by_cases h1 : x.toInt < lo.toInt ∨ lo.toInt + (ts.length : Int) ≤ x.toInt
  · exact lv_tableOut S.1 S.2.1 h (by omega) (mOff pc d) (kd h1 ad H locs ls cells slots a1 a2 a3 a4 a5 a6 a7 a8)
  · have hq : (x.toInt - lo.toInt).toNat < ts.length := by omega
    obtain ⟨t, ht⟩ : ∃ t, ts[(x.toInt - lo.toInt).toNat]? = some t := ⟨_, List.getElem?_eq_getElem hq⟩
    exact lv_tableIn S.1 S.2.1 (off := (t : Int) - (pc : Int)) h (by omega) (by omega) (by rw [List.getElem?_toArray, List.getElem?_map, ht]; rfl) (mOff pc t) (kt _ t ht (by omega) ad H locs ls cells slots a1 a2 a3 a4 a5 a6 a7 a8)
theorem sl_26 (S : CallFix p m c cc nL s args (mWS j) own) (hK : va_K D mCL (mTYs ta) s) {t o kd n : Nat} {i : Int32} (hck : mK26 cc pc len t = true) (ho : σ.2.1[o]? = some (kd, n)) (hk : mAk t kd) (hi : vp_in i n) (kk : lG p l e R s m args below meth c D ta A ad0 n0 s0 nL Q (pc + len) L (mAv σ o i.toNatClampNeg t :: st) σ) : lG p l e R s m args below meth c D ta A ad0 n0 s0 nL Q pc L (.int i :: .ref o :: st) σ := by
  simp only [mK26, Bool.and_eq_true, beq_iff_eq, decide_eq_true_eq] at hck
  obtain ⟨rfl, ht, h⟩ := hck
  have h := mDc_ok h
  intro ad H locs ls cells slots a1 a2 a3 a4 a5 a6 a7 a8
  have k1 := kk ad H locs ls cells slots a1 a2 a3 a4 a5 a6 a7 a8
  rw [List.map_cons, mAv_cv] at k1
  rcases ht with rfl | rfl | rfl | rfl
  · have hk : kd = 20 + 0 := hk
    subst hk
    exact va_iald S.1 S.2.1 hK a4 o 0 (by rw [mWs_get ho, mEnc_row (by omega)]) (mTY_at (by omega)) hi h k1
  · have hk : kd = 20 + 1 ∨ kd = 20 + 2 := hk
    rcases hk with rfl | rfl
    · exact va_bald S.1 S.2.1 hK a4 o 1 (by rw [mWs_get ho, mEnc_row (by omega)]) (mTY_at (by omega)) hi h k1
    · exact va_zald S.1 S.2.1 hK a4 o 2 (by rw [mWs_get ho, mEnc_row (by omega)]) (mTY_at (by omega)) hi h k1
  · have hk : kd = 23 := hk
    subst hk
    exact va_lald S.1 S.2.1 hK a4 o 3 (by rw [mWs_get ho, mEnc_rowL]) (mTY_at (by omega)) hi h k1
  · have hk : kd = 20 + 4 ∨ kd = 20 + 5 ∨ kd = 20 + 6 := hk
    rcases hk with rfl | rfl | rfl
    · exact va_aldq (f := fun k => (σ.2.2.1 o k).map ad) S.1 S.2.1 hK a4 o 4 (by rw [mWs_get ho, mEnc_rowR (by omega)]) (mTY_at (by omega)) hi h k1
    · exact va_aldq (f := fun k => (σ.2.2.1 o k).map ad) S.1 S.2.1 hK a4 o 5 (by rw [mWs_get ho, mEnc_rowR (by omega)]) (mTY_at (by omega)) hi h k1
    · exact va_aldq (f := fun k => (σ.2.2.1 o k).map ad) S.1 S.2.1 hK a4 o 6 (by rw [mWs_get ho, mEnc_rowR (by omega)]) (mTY_at (by omega)) hi h k1
/-- less may be known of the locals -/
theorem sl_weak {L' : mL} (hl : L'.length = L.length) (h : ∀ (i : Nat) (v : Value), L'[i]? = some (some v) → L[i]? = some (some v)) (k : lG p l e R s m args below meth c D ta A ad0 n0 s0 nL Q pc L' st σ) : lG p l e R s m args below meth c D ta A ad0 n0 s0 nL Q pc L st σ := by
  intro ad H locs ls cells slots a1 a2 a3 a4 a5 a6 a7 a8
  refine k ad H locs ls cells slots a1 a2 a3 a4 a5 a6 (hl.trans a7) (lv_has_of a8 (fun q hq => ?_))
  obtain ⟨v, h1, h2⟩ := mLp_mem.mp hq
  exact mLp_mem.mpr ⟨v, h _ _ h1, h2⟩
theorem sl_wide {n1 s1 : Nat} (h1 : n0 ≤ n1) (h2 : s0 ≤ s1) (k : lG p l e R s m args below meth c D ta A ad0 n1 s1 nL Q pc L st σ) : lG p l e R s m args below meth c D ta A ad0 n0 s0 nL Q pc L st σ := fun ad H locs ls cells slots a1 a2 a3 a4 a5 a6 a7 a8 => k ad H locs ls cells slots a1 (Nat.le_trans a2 h1) (Nat.le_trans a3 h2) a4 a5 a6 a7 a8
/-- the script -/
theorem sl_len (S : CallFix p m c cc nL s args (mWS j) own) {b N : Nat} {xs : Nat → Int32} (hX : va_X b N xs s s.heap) (hbl : b < s.heap.size) (hbA : ¬ A b) (hb : ad0 1000100 = b) (hs : σ.2.1.length ≤ 1000100) (hck : mK1 cc pc len .arraylength = true) (k : lG p l e R s m args below meth c D ta A ad0 n0 s0 nL Q (pc + len) L (.int (Int32.ofNat N) :: st) σ) : lG p l e R s m args below meth c D ta A ad0 n0 s0 nL Q pc L (.ref 1000100 :: st) σ := by
  simp only [mK1, Bool.and_eq_true, beq_iff_eq] at hck
  obtain ⟨rfl, h⟩ := hck
  intro ad H locs ls cells slots a1 a2 a3 a4 a5 a6 a7 a8
  have e : ad 1000100 = b := (a1 1000100 (Or.inr hs)).trans hb
  have q := va_slen (rest := st.map (mCv ad)) S.1 S.2.1 hX hbl hbA a6 (mDc_ok h) (k ad H locs ls cells slots a1 a2 a3 a4 a5 a6 a7 a8)
  rw [← e] at q
  exact q
theorem sl_sld (S : CallFix p m c cc nL s args (mWS j) own) {b N : Nat} {xs : Nat → Int32} (hX : va_X b N xs s s.heap) (hbl : b < s.heap.size) (hbA : ¬ A b) (hb : ad0 1000100 = b) (hs : σ.2.1.length ≤ 1000100) {i : Int32} (hi : vp_in i N) (hck : mK1 cc pc len .iaload = true) (k : lG p l e R s m args below meth c D ta A ad0 n0 s0 nL Q (pc + len) L (.int (xs i.toNatClampNeg) :: st) σ) : lG p l e R s m args below meth c D ta A ad0 n0 s0 nL Q pc L (.int i :: .ref 1000100 :: st) σ := by
  simp only [mK1, Bool.and_eq_true, beq_iff_eq] at hck
  obtain ⟨rfl, h⟩ := hck
  intro ad H locs ls cells slots a1 a2 a3 a4 a5 a6 a7 a8
  have e : ad 1000100 = b := (a1 1000100 (Or.inr hs)).trans hb
  have q := va_sld (rest := st.map (mCv ad)) S.1 S.2.1 hX hbl hbA a6 hi (mDc_ok h) (k ad H locs ls cells slots a1 a2 a3 a4 a5 a6 a7 a8)
  rw [← e] at q
  exact q
/-- new things -/
theorem sl_made {ad : Nat → Nat} {kd n sz q n1 s1 : Nat} {H1 : Heap} {locs : List Loc} {ls : Array Slot} {cells slots : Nat} {pc' : Nat} (hout : mOut σ.2.1.length (σ.2.1.length + 1) L st) (hr : mRfo σ) (a1 : mAgr ad0 ad 0 σ.2.1.length) (hc : cells + 1 ≤ n1) (hs : slots + sz ≤ s1) (b1 : va_P D mCL (mWs ta ad σ ++ [(q, mEnc ta ad (kd, n) (fun _ => none) (fun _ => 0) (fun _ => 0))]) H1) (b2 : va_D A (mWs ta ad σ ++ [(q, mEnc ta ad (kd, n) (fun _ => none) (fun _ => 0) (fun _ => 0))])) (b3 : va_S A s.heap H1 locs) (a7 : L.length = nL) (a8 : lv_has ls nL (mLp ad L)) (kk : lG p l e R s m args below meth c D ta A ad0 n1 s1 nL Q pc' L (.ref σ.2.1.length :: st) (mNew σ kd n sz)) : W p l e R s m args below meth c H1 locs (cells + 1) (slots + sz) Q (F0 m pc' ls (.ref q :: st.map (mCv ad))) := by
  have hlen : (mNew σ kd n sz).2.1.length = σ.2.1.length + 1 := by simp [mNew]
  have hne : ∀ x, (x < σ.2.1.length ∨ σ.2.1.length + 1 ≤ x) → va_up ad σ.2.1.length q x = ad x := fun x hx => mup_ne (by omega)
  have hL : ∀ x, some (Value.ref x) ∈ L → va_up ad σ.2.1.length q x = ad x := fun x hx => hne x (hout.1 x hx)
  have hs1 : ∀ x, Value.ref x ∈ st → va_up ad σ.2.1.length q x = ad x := fun x hx => hne x (hout.2 x hx)
  have k := kk (va_up ad σ.2.1.length q) H1 locs ls (cells + 1) (slots + sz) (fun o ho => by rw [hlen] at ho; rw [hne o (by omega)]; exact a1 o (by omega)) hc hs (by rw [mWs_new hr]; exact b1) (by rw [mWs_new hr]; exact b2) b3 a7 (by rw [mLp_ad hL]; exact a8)
  rw [List.map_cons, mSt_ad hs1, show mCv (va_up ad σ.2.1.length q) (.ref σ.2.1.length) = .ref q from congrArg Value.ref mup_eq] at k
  exact k
theorem sl_35 (S : CallFix p m c cc nL s args (mWS j) own) (hK : va_K D mCL (mTYs ta) s) (hA : ∀ q, s.heap.size ≤ q → A q) {ci idx : Nat} (hc : ci < 11) {r : vw_C} (hr1 : mCL[ci]? = some r) (hw2 : Cond.classLink own idx r.1 ∈ mWT) (hd : mDc cc pc (.new idx) 3 = true) (hRc : n0 + 1 ≤ R.cells) (hRs : s0 + (mFt.getD ci []).length ≤ R.slots) (hout : mOut σ.2.1.length (σ.2.1.length + 1) L st) (hr : mRfo σ) (kk : lG p l e R s m args below meth c D ta A ad0 (n0 + 1) (s0 + (mFt.getD ci []).length) nL Q (pc + 3) L (.ref σ.2.1.length :: st) (mNew σ ci 0 (mFt.getD ci []).length)) : lG p l e R s m args below meth c D ta A ad0 n0 s0 nL Q pc L st σ := by
  obtain ⟨r', hr2, g1, g2, g3, g4, g5, g6⟩ := mC_ok ci hc
  have e : r' = r := Option.some.inj (hr2.symm.trans hr1)
  subst e
  intro ad H locs ls cells slots a1 a2 a3 a4 a5 a6 a7 a8
  rw [g4] at hRs kk
  refine va_new (ci := ci) (fs := mFs ad ci (fun _ => none) (fun _ => 0) (fun _ => 0)) (C := r'.1) (T := r'.2.1) (N := r'.2.2) S.1 S.2.1 S.2.2.2.2 (fun w hw => List.mem_cons_of_mem _ (g1 w hw)) (mTF ci) g2 S.2.2.2.1 (S.2.2.2.2 _ (List.mem_cons_of_mem _ hw2)) (S.2.2.2.2 _ (List.mem_cons_of_mem _ g5)) (S.2.2.2.2 _ (List.mem_cons_of_mem _ g6)) hK a4 a5 a6 hA hr1 (fun k hk => mDef_at hc (by omega)) (by omega) (by omega) (mDc_ok hd) (fun q H1 b1 b2 b3 => ?_)
  exact sl_made (kd := ci) (n := 0) hout hr a1 (by omega) (by omega) (by rw [mEnc_obj hc]; exact b1) (by rw [mEnc_obj hc]; exact b2) b3 a7 a8 kk
theorem sl_36 (S : CallFix p m c cc nL s args (mWS j) own) (hK : va_K D mCL (mTYs ta) s) (hA : ∀ q, s.heap.size ≤ q → A q) {n : Int32} (hck : mK36 cc pc len 3 = true) (hn : ¬ n < 0) (hb : n.toNatClampNeg ≤ 65536) (hRc : n0 + 1 ≤ R.cells) (hRs : s0 + n.toNatClampNeg ≤ R.slots) (hout : mOut σ.2.1.length (σ.2.1.length + 1) L st) (hr : mRfo σ) (kk : lG p l e R s m args below meth c D ta A ad0 (n0 + 1) (s0 + n.toNatClampNeg) nL Q (pc + len) L (.ref σ.2.1.length :: st) (mNew σ 23 n.toNatClampNeg n.toNatClampNeg)) : lG p l e R s m args below meth c D ta A ad0 n0 s0 nL Q pc L (.int n :: st) σ := by
  simp only [mK36, Bool.and_eq_true, beq_iff_eq, decide_eq_true_eq] at hck
  obtain ⟨rfl, ht, h⟩ := hck
  have h := mDc_ok h
  have hw := fun w hw => S.2.2.2.2 w (List.mem_cons_of_mem _ (mUin_ok mB_arr w hw))
  intro ad H locs ls cells slots a1 a2 a3 a4 a5 a6 a7 a8
  refine va_newa (atype := .long) (a0 := (n.toNatClampNeg, .inr (.inl (fun _ => 0)))) S.1 S.2.1 (hw (.arrayClass .long) (by simp)) rfl hK a4 a5 a6 hA (fun _ => rfl) hn rfl (by show n.toNatClampNeg * 8 ≤ _; omega) (by omega) (by omega) h (fun q cA H1 b0 b1 b2 b3 => ?_)
  have e := mTa_one (t := 3) hK (by omega) b0
  subst e
  exact sl_made (kd := 23) (n := n.toNatClampNeg) hout hr a1 (by omega) (by omega) b1 b2 b3 a7 a8 kk
/-- a call -/
theorem sl_call (S : CallFix p m c cc nL s args (mWS j) own) (hA : ∀ q, s.heap.size ≤ q → A q) {as : List Value} {r' : Option Int32} {σ' : mMH} {mc ms : Nat} (hle : mLe σ σ') (hout : mOut σ.2.1.length σ'.2.1.length L st)
    (hrun : ∀ (ad : Nat → Nat) (H : Heap) (locs : List Loc) (ls : Array Slot) (cells slots : Nat), (∀ o, 1000000 ≤ o → ad o = ad0 o) → va_S A s.heap H locs → (∀ q, va_A (mWs ta ad σ) H.size q → A q) → cells ≤ n0 → slots ≤ s0 → va_P D mCL (mWs ta ad σ) H → va_D A (mWs ta ad σ) → lv_has ls nL (mLp ad L) → va_Run p l e R s m args below meth c H locs cells slots mc ms (F0 m pc ls ((as.reverse ++ st).map (mCv ad))) (st.map (mCv ad)) (mQc D ta ad H.size σ r' σ' (as.map (mCv ad)).toArray) (va_A (mWs ta ad σ) H.size))
    (kk : lG p l e R s m args below meth c D ta A ad0 (n0 + mc) (s0 + ms) nL Q (pc + 3) L ((r'.map Value.int).toList ++ st) σ') : lG p l e R s m args below meth c D ta A ad0 n0 s0 nL Q pc L (as.reverse ++ st) σ := by
  intro ad H locs ls cells slots a1 a2 a3 a4 a5 a6 a7 a8
  have hsub := mA_sub hA a5 a6
  obtain ⟨l1, l2, l3⟩ := hle
  have hr := hrun ad H locs ls cells slots (fun o ho => a1 o (Or.inr (by omega))) a6 hsub a2 a3 a4 a5 a8
  have fin : ∀ (ad' : Nat → Nat) (t : State) (H1 : Heap) (locs1 : List Loc), t.heap = H1 → mAgr ad ad' σ.2.1.length σ'.2.1.length → va_P D mCL (mWs ta ad' σ') t.heap ∧ va_D (va_A (mWs ta ad σ) H.size) (mWs ta ad' σ') → va_S A s.heap H1 locs1 → W p l e R s m args below meth c H1 locs1 (cells + mc) (slots + ms) Q (F0 m (pc + 3) ls (((r'.map Value.int).toList ++ st).map (mCv ad))) := by
    intro ad' t H1 locs1 ht hag hB hS1
    have hL : ∀ x, some (Value.ref x) ∈ L → ad' x = ad x := fun x hx => hag x (hout.1 x hx)
    have hs : ∀ x, Value.ref x ∈ (r'.map Value.int).toList ++ st → ad' x = ad x := fun x hx => by
      rcases List.mem_append.mp hx with h | h
      · cases r' <;> simp at h
      · exact hag x (hout.2 x h)
    have k := kk ad' H1 locs1 ls (cells + mc) (slots + ms) (fun o ho => ?_) (by omega) (by omega) (by rw [← ht]; exact hB.1) (hB.2.weaken (fun _ q _ h => hsub q.1 h)) hS1 a7 (by rw [mLp_ad hL]; exact a8)
    · rw [mSt_ad hs] at k
      exact k
    · rw [hag o (by omega)]
      exact a1 o (by omega)
  cases r' with
  | some x =>
    exact va_calli (a := (as.map (mCv ad)).toArray) (post := fun y ad' => y = x ∧ mAgr ad ad' σ.2.1.length σ'.2.1.length) hr a6 (fun q _ h => hsub q h) hsub (fun r u t H1 locs1 ht _ hp hB _ _ hS1 => by
      obtain ⟨rfl, hag⟩ := hp
      exact fin u t H1 locs1 ht hag hB hS1)
  | none => exact va_callv (a := (as.map (mCv ad)).toArray) (post := fun ad' => mAgr ad ad' σ.2.1.length σ'.2.1.length) hr a6 (fun q _ h => hsub q h) hsub (fun u t H1 locs1 ht _ hp hB _ _ hS1 => fin u t H1 locs1 ht hp hB hS1)
/-- a call of a method of an object -/
theorem sl_virt (S : CallFix p m c cc nL s args (mWS j) own) (hKs : mKs D ta ad0 A s) (hA : ∀ q, s.heap.size ≤ q → A q) {d : Nat} (hRf : d + 1 ≤ R.frames) (hRl : 30 * d + 30 ≤ R.locals) {j' na idx o : Nat} {as : List Value} {r' : Option Int32} {σ' : mMH} (hj : j' < 271) (hm : mMok j' na) (hM : mCall d j' (.ref o :: as) σ r' σ') (g1 : mDc cc pc (.invokevirtual idx) 3 = true) (g2 : Cond.methodLink own idx (mt j').2.1 ∈ mWT) (g3 : (mt j').2.2.2.2.2.1 = 0) (g4 : mCi j' < 11) (hlen : as.length = na) (hsz : mSz st ≤ 8) (ho : σ.2.1[o]? = some (mCi j', 0)) (e1 : σ'.1 = σ.1) (e2 : σ'.2.1 = σ.2.1) (hz : σ.2.1.length ≤ 1000000) (hRc : n0 ≤ R.cells) (hRs : s0 ≤ R.slots) (kk : lG p l e R s m args below meth c D ta A ad0 n0 s0 nL Q (pc + 3) L ((r'.map Value.int).toList ++ st) σ') : lG p l e R s m args below meth c D ta A ad0 n0 s0 nL Q pc L ((.ref o :: as).reverse ++ st) σ := by
  have hR : ∀ mc ms, (mRm d mc ms).frames + 1 ≤ R.frames ∧ 8 + ((mt j').2.2.2.1 + 11) + (mRm d mc ms).locals ≤ R.locals := fun mc ms => ⟨hRf, by have := hm.2.2.2.1; show 8 + ((mt j').2.2.2.1 + 11) + 30 * d ≤ R.locals; omega⟩
  have hM1 := mSound (l := l) hj hM
  have c0 : σ'.2.1.length - σ.2.1.length = 0 := by rw [e2, Nat.sub_self]
  have s00 : σ'.1 - σ.1 = 0 := by rw [e1, Nat.sub_self]
  refine sl_call (mc := 0) (ms := 0) (as := .ref o :: as) S hA ⟨by rw [e1]; exact Nat.le_refl _, by rw [e2]; exact Nat.le_refl _, by rw [e2]; exact hz⟩ (by rw [e2]; exact mOut_self) ?_ kk
  intro ad H locs ls cells slots b1 b2 b3 a2 a3 a4 a5 a8
  have hroom := lv_room (m := m) (pc := pc) (ls := ls) (rest := ((.ref o :: as).reverse ++ st).map (mCv ad)) (st := st.map (mCv ad)) (by rw [mSz_cv]; exact hsz)
  have g6 := hm.2.2.2.2.2.1
  rw [g3] at g6
  obtain ⟨r, hr, -⟩ := mC_ok (mCi j') g4
  have hcls : r.1 = (mt j').2.1.cls := (mOwn_CL g4 hr).trans hm.2.2.2.2.2.2
  have hM2 := hM1 D ta ad H.size
  rw [c0, s00] at hM2
  exact va_runV (C := (mt j').2.1.cls) (As := as.map (mCv ad)) (b := ad o) S hM2 ⟨mCB S hm g2 rfl rfl (hR _ _), S.2.2.2.2 _ (List.mem_cons_of_mem _ g6.1), S.2.2.2.2 _ (List.mem_cons_of_mem _ g6.2)⟩ ⟨mPc_blind, hcls ▸ va_recv hKs.1 a4 hr (by rw [mWs_get ho, mEnc_obj g4]), fun U hU hW => mPc_at (as := .ref o :: as) hKs hU hW a4 a5 b2 b3 b1⟩ rfl (by simpa using hlen) a8.1 (by simp [List.map_reverse, mCv]) hroom (mDc_ok g1) ⟨by omega, by omega⟩
/-- a constructor's call -/
theorem sl_spec (S : CallFix p m c cc nL s args (mWS j) own) (hKs : mKs D ta ad0 A s) (hA : ∀ q, s.heap.size ≤ q → A q) {d : Nat} (hRf : d + 1 ≤ R.frames) (hRl : 30 * d + 30 ≤ R.locals) {j' idx o : Nat} {σ' : mMH} (hj : j' < 271) (hm : mMok j' 0) (hM : mCall d j' [.ref o] σ none σ') (g1 : mDc cc pc (.invokespecial idx) 3 = true) (g2 : Cond.methodLink own idx (mt j').2.1 ∈ mWT) (g3 : (mt j').2.2.2.2.2.1 = 2) (hsz : mSz st ≤ 8) (hle : mLe σ σ') (hout : mOut σ.2.1.length σ'.2.1.length L st) (hRc : n0 + (σ'.2.1.length - σ.2.1.length) ≤ R.cells) (hRs : s0 + (σ'.1 - σ.1) ≤ R.slots) (kk : lG p l e R s m args below meth c D ta A ad0 (n0 + (σ'.2.1.length - σ.2.1.length)) (s0 + (σ'.1 - σ.1)) nL Q (pc + 3) L st σ') : lG p l e R s m args below meth c D ta A ad0 n0 s0 nL Q pc L (.ref o :: st) σ := by
  have hR : ∀ mc ms, (mRm d mc ms).frames + 1 ≤ R.frames ∧ 8 + ((mt j').2.2.2.1 + 11) + (mRm d mc ms).locals ≤ R.locals := fun mc ms => ⟨hRf, by have := hm.2.2.2.1; show 8 + ((mt j').2.2.2.1 + 11) + 30 * d ≤ R.locals; omega⟩
  have hM1 := mSound (l := l) hj hM
  refine sl_call (mc := σ'.2.1.length - σ.2.1.length) (ms := σ'.1 - σ.1) (as := [.ref o]) (r' := none) S hA hle hout ?_ kk
  intro ad H locs ls cells slots b1 b2 b3 a2 a3 a4 a5 a8
  have hroom := lv_room (m := m) (pc := pc) (ls := ls) (rest := (([.ref o] : List Value).reverse ++ st).map (mCv ad)) (st := st.map (mCv ad)) (by rw [mSz_cv]; exact hsz)
  have g6 := hm.2.2.2.2.2.1
  rw [g3] at g6
  exact va_runI (As := []) (b := ad o) S (hM1 D ta ad H.size) ⟨by rw [← g6.2.2]; exact mCB S hm g2 rfl rfl (hR _ _), g6.2.1, S.2.2.2.2 _ (List.mem_cons_of_mem _ g6.1)⟩ ⟨mPc_blind, fun U hU hW => mPc_at (as := [.ref o]) hKs hU hW a4 a5 b2 b3 b1⟩ rfl rfl a8.1 rfl hroom (mDc_ok g1) ⟨by omega, by omega⟩
end LSND
