/-! ROWS over the step machine: a method whose objects are made already -/
def RB (d : Nat) (cd : List mBk) (rt : Option FieldType) (is : List mRI) (L : mL) (st : List Value) (σ : mMH) (Q : Option Int32 → mMH → Prop) : Prop :=
  σ.2.1.length ≤ 1000000 → ∃ (r : Option Int32) (τ : mMH), (∃ n, mExb (mCall d) rt r τ (mWp (mCall d) cd rt r τ n) is L st σ) ∧ τ.1 = σ.1 ∧ τ.2.1 = σ.2.1 ∧ Q r τ
def RJ (d : Nat) (cd : List mBk) (rt : Option FieldType) (b : Nat) (L : mL) (st : List Value) (σ : mMH) (Q : Option Int32 → mMH → Prop) : Prop := RB d cd rt (cd.getD b (0, [])).2 L st σ Q
def CQ (d j : Nat) (as : List Value) (σ : mMH) (Q : Option Int32 → mMH → Prop) : Prop := σ.2.1.length ≤ 1000000 → ∃ (r : Option Int32) (τ : mMH), mCall d j as σ r τ ∧ τ.1 = σ.1 ∧ τ.2.1 = σ.2.1 ∧ Q r τ
abbrev mB : Type := Nat × List (Nat × Nat) × (Nat → Nat → Option Nat)
abbrev mF : Type := Nat → Int32
abbrev mV : Type := Nat → Nat → Int32
abbrev mX : Type := Nat → Nat → Int64
abbrev mH (B : mB) (v : mV) (w : mX) : mMH := (B.1, B.2.1, B.2.2, v, w)
/-- some objects' rows laid over a heap -/
def mE (v : mV) : List (Nat × mF) → mV
  | [] => v
  | (o, f) :: r => va_up (mE v r) o f
def mNd (env : List (Nat × mF)) : Prop := (env.map Prod.fst).Nodup
theorem mE_at {v : mV} : ∀ {env : List (Nat × mF)} (q : Nat) {o : Nat} {f : mF}, mNd env → env[q]? = some (o, f) → mE v env o = f
  | [], _, _, _, _, h => by cases h
  | (a, g) :: r, 0, o, f, _, h => by
    cases h
    exact mup_eq
  | (a, g) :: r, q + 1, o, f, hn, h => by
    have hn := List.nodup_cons.mp hn
    have h1 := mE_at (v := v) q hn.2 h
    have hne : o ≠ a := fun e => hn.1 (e ▸ List.mem_map.mpr ⟨(o, f), List.mem_of_getElem? h, rfl⟩)
    show va_up (mE v r) a g o = f
    rw [mup_ne hne]
    exact h1
theorem mup_comm {α : Type} {f : Nat → α} {a b : Nat} {x y : α} (h : a ≠ b) : va_up (va_up f a x) b y = va_up (va_up f b y) a x := by
  funext i
  unfold va_up
  by_cases h1 : i = a
  · subst h1
    simp [h]
  · simp [h1]
theorem mup_twice {α : Type} {f : Nat → α} {a : Nat} {x y : α} : va_up (va_up f a x) a y = va_up f a y := by
  funext i
  unfold va_up
  split <;> rfl
theorem mup_self {α : Type} {f : Nat → α} {a : Nat} : va_up f a (f a) = f := by
  funext i
  unfold va_up
  split
  · rename_i h; rw [h]
  · rfl
theorem mE_set {v : mV} : ∀ {env : List (Nat × mF)} (q : Nat) {o : Nat} {f g : mF}, mNd env → env[q]? = some (o, f) → va_up (mE v env) o g = mE v (env.set q (o, g))
  | [], _, _, _, _, _, h => by cases h
  | (a, e) :: r, 0, o, f, g, _, h => by
    cases h
    exact mup_twice
  | (a, e) :: r, q + 1, o, f, g, hn, h => by
    have hn := List.nodup_cons.mp hn
    have h1 := mE_set (v := v) (g := g) q hn.2 h
    have hne : a ≠ o := fun e => hn.1 (e ▸ List.mem_map.mpr ⟨(o, f), List.mem_of_getElem? h, rfl⟩)
    show va_up (va_up (mE v r) a e) o g = va_up (mE v (r.set q (o, g))) a e
    rw [mup_comm hne, h1]
/-- rows that stand there already, laid once more -/
theorem mE_id {v : mV} : ∀ (envc : List (Nat × mF)), (∀ x ∈ envc, v x.1 = x.2) → mE v envc = v
  | [], _ => rfl
  | (o, f) :: r, h => by
    show va_up (mE v r) o f = v
    have e : v o = f := h (o, f) List.mem_cons_self
    rw [mE_id r (fun x hx => h x (List.mem_cons_of_mem _ hx)), ← e]
    exact mup_self
def mPut2 (env : List (Nat × mF)) : List (Nat × (Nat × mF)) → List (Nat × mF)
  | [] => env
  | (q, x) :: r => (mPut2 env r).set q x
theorem mPut2_keys {env : List (Nat × mF)} : ∀ (l : List (Nat × (Nat × mF))), (∀ x ∈ l, (env.map Prod.fst)[x.1]? = some x.2.1) → (mPut2 env l).map Prod.fst = env.map Prod.fst
  | [], _ => rfl
  | (q, x) :: r, h => by
    have ih := mPut2_keys r (fun y hy => h y (List.mem_cons_of_mem _ hy))
    show ((mPut2 env r).set q x).map Prod.fst = _
    rw [List.map_set, ih]
    have h0 := h (q, x) List.mem_cons_self
    apply List.ext_getElem?
    intro i
    by_cases hi : q = i
    · subst hi
      rw [List.getElem?_set_self (List.getElem?_eq_some_iff.mp h0).1, h0]
    · rw [List.getElem?_set_ne hi]
theorem mE_put2 {v : mV} {env : List (Nat × mF)} (hn : mNd env) : ∀ (l : List (Nat × (Nat × mF))), (∀ x ∈ l, (env.map Prod.fst)[x.1]? = some x.2.1) → mE (mE v env) (l.map Prod.snd) = mE v (mPut2 env l)
  | [], _ => rfl
  | (q, (o, f)) :: r, h => by
    have hr : ∀ x ∈ r, (env.map Prod.fst)[x.1]? = some x.2.1 := fun y hy => h y (List.mem_cons_of_mem _ hy)
    have ih := mE_put2 (v := v) hn r hr
    have hk := mPut2_keys r hr
    have h0 : (env.map Prod.fst)[q]? = some o := h (q, (o, f)) List.mem_cons_self
    rw [← hk, List.getElem?_map] at h0
    obtain ⟨⟨o', g⟩, h1, h2⟩ := Option.map_eq_some_iff.mp h0
    have h2 : o' = o := h2
    subst h2
    show va_up (mE (mE v env) (r.map Prod.snd)) o' f = mE v ((mPut2 env r).set q (o', f))
    rw [ih]
    exact mE_set q (by unfold mNd; rw [hk]; exact hn) h1
section ROWS
variable {d : Nat} {cd : List mBk} {rt : Option FieldType} {rest : List mRI} {L : mL} {st : List Value} {σ : mMH} {B : mB} {v : mV} {w : mX} {Q : Option Int32 → mMH → Prop} {n : Nat} {c : Int32} {ps : List Nat}
theorem r_of {is : List mRI} {L' : mL} {st' : List Value} (h : ∀ r τ K, mExb (mCall d) rt r τ K rest L' st' σ → mExb (mCall d) rt r τ K is L st σ) (k : RB d cd rt rest L' st' σ Q) : RB d cd rt is L st σ Q := by
  intro hz
  obtain ⟨r, τ, ⟨n, h1⟩, h2⟩ := k hz
  exact ⟨r, τ, ⟨n, h _ _ _ h1⟩, h2⟩
theorem r_ofH {is : List mRI} {L' : mL} {st' : List Value} {σ' : mMH} (e1 : σ'.1 = σ.1) (e2 : σ'.2.1 = σ.2.1) (h : ∀ r τ K, mExb (mCall d) rt r τ K rest L' st' σ' → mExb (mCall d) rt r τ K is L st σ) (k : RB d cd rt rest L' st' σ' Q) : RB d cd rt is L st σ Q := by
  intro hz
  obtain ⟨r, τ, ⟨n, h1⟩, h2, h3, h4⟩ := k (by rw [e2]; exact hz)
  exact ⟨r, τ, ⟨n, h _ _ _ h1⟩, h2.trans e1, h3.trans e2, h4⟩
theorem r_int (k : RB d cd rt rest L (.int c :: st) σ Q) : RB d cd rt ((0, n, c, ps) :: rest) L st σ Q := r_of (fun _ _ _ h => h) k
theorem r_iload {i : Nat} {x : Int32} (h : L[i]? = some (some (.int x))) (k : RB d cd rt rest L (.int x :: st) σ Q) : RB d cd rt ((1, n, c, i :: ps) :: rest) L st σ Q := r_of (fun _ _ _ h2 => ⟨x, h, h2⟩) k
theorem r_aload {i : Nat} {x : Nat} (h : L[i]? = some (some (.ref x))) (k : RB d cd rt rest L (.ref x :: st) σ Q) : RB d cd rt ((2, n, c, i :: ps) :: rest) L st σ Q := r_of (fun _ _ _ h2 => ⟨x, h, h2⟩) k
theorem r_lload {i : Nat} {x : Int64} (h : L[i]? = some (some (.long x))) (k : RB d cd rt rest L (.long x :: st) σ Q) : RB d cd rt ((3, n, c, i :: ps) :: rest) L st σ Q := r_of (fun _ _ _ h2 => ⟨x, h, h2⟩) k
theorem r_istore {i : Nat} {x : Int32} {L' : mL} (h : (decide (i < L.length) && mNL L i) = true) (e : L.set i (some (.int x)) = L') (k : RB d cd rt rest L' st σ Q) : RB d cd rt ((4, n, c, i :: ps) :: rest) L (.int x :: st) σ Q := by
  rw [Bool.and_eq_true, decide_eq_true_eq] at h
  subst e
  exact r_of (fun _ _ _ h2 => ⟨x, st, rfl, h.1, h.2, h2⟩) k
theorem r_astore {i : Nat} {x : Nat} {L' : mL} (h : (decide (i < L.length) && mNL L i) = true) (e : L.set i (some (.ref x)) = L') (k : RB d cd rt rest L' st σ Q) : RB d cd rt ((5, n, c, i :: ps) :: rest) L (.ref x :: st) σ Q := by
  rw [Bool.and_eq_true, decide_eq_true_eq] at h
  subst e
  exact r_of (fun _ _ _ h2 => ⟨x, st, rfl, h.1, h.2, h2⟩) k
theorem r_lstore {i : Nat} {x : Int64} {L' : mL} (h : (decide (i + 1 < L.length) && mNL L i) = true) (e : (L.set i (some (.long x))).set (i + 1) none = L') (k : RB d cd rt rest L' st σ Q) : RB d cd rt ((6, n, c, i :: ps) :: rest) L (.long x :: st) σ Q := by
  rw [Bool.and_eq_true, decide_eq_true_eq] at h
  subst e
  exact r_of (fun _ _ _ h2 => ⟨x, st, rfl, h.1, h.2, h2⟩) k
theorem r_iinc {i : Nat} {x : Int32} {L' : mL} (h : L[i]? = some (some (.int x))) (h1 : mNL L i = true) (e : L.set i (some (.int (x + c))) = L') (k : RB d cd rt rest L' st σ Q) : RB d cd rt ((7, n, c, i :: ps) :: rest) L st σ Q := by
  subst e
  exact r_of (fun _ _ _ h2 => ⟨x, h, h1, h2⟩) k
theorem r_iadd {x y : Int32} (k : RB d cd rt rest L (.int (x + y) :: st) σ Q) : RB d cd rt ((8, n, c, 0 :: ps) :: rest) L (.int y :: .int x :: st) σ Q := r_of (fun _ _ _ h => ⟨x, y, st, rfl, h⟩) k
theorem r_isub {x y : Int32} (k : RB d cd rt rest L (.int (x - y) :: st) σ Q) : RB d cd rt ((8, n, c, 1 :: ps) :: rest) L (.int y :: .int x :: st) σ Q := r_of (fun _ _ _ h => ⟨x, y, st, rfl, h⟩) k
theorem r_imul {x y : Int32} (k : RB d cd rt rest L (.int (x * y) :: st) σ Q) : RB d cd rt ((8, n, c, 2 :: ps) :: rest) L (.int y :: .int x :: st) σ Q := r_of (fun _ _ _ h => ⟨x, y, st, rfl, h⟩) k
theorem r_iand {x y : Int32} (k : RB d cd rt rest L (.int (x &&& y) :: st) σ Q) : RB d cd rt ((8, n, c, 3 :: ps) :: rest) L (.int y :: .int x :: st) σ Q := r_of (fun _ _ _ h => ⟨x, y, st, rfl, h⟩) k
theorem r_ishr {x y : Int32} (k : RB d cd rt rest L (.int (x >>> (y &&& 31)) :: st) σ Q) : RB d cd rt ((8, n, c, 4 :: ps) :: rest) L (.int y :: .int x :: st) σ Q := r_of (fun _ _ _ h => ⟨x, y, st, rfl, h⟩) k
theorem r_iushr {x y : Int32} (k : RB d cd rt rest L (.int ((x.toUInt32 >>> (y.toUInt32 &&& Int32.toUInt32 31)).toInt32) :: st) σ Q) : RB d cd rt ((8, n, c, 5 :: ps) :: rest) L (.int y :: .int x :: st) σ Q := r_of (fun _ _ _ h => ⟨x, y, st, rfl, h⟩) k
theorem r_idiv {x y : Int32} (hy : ¬ y = 0) (k : RB d cd rt rest L (.int (x / y) :: st) σ Q) : RB d cd rt ((9, n, c, 0 :: ps) :: rest) L (.int y :: .int x :: st) σ Q := r_of (fun _ _ _ h => ⟨x, y, st, rfl, hy, h⟩) k
theorem r_irem {x y : Int32} (hy : ¬ y = 0) (k : RB d cd rt rest L (.int (x - x / y * y) :: st) σ Q) : RB d cd rt ((9, n, c, 1 :: ps) :: rest) L (.int y :: .int x :: st) σ Q := r_of (fun _ _ _ h => ⟨x, y, st, rfl, hy, h⟩) k
theorem r_ineg {x : Int32} (k : RB d cd rt rest L (.int (-x) :: st) σ Q) : RB d cd rt ((10, n, c, 0 :: ps) :: rest) L (.int x :: st) σ Q := r_of (fun _ _ _ h => ⟨x, st, rfl, h⟩) k
theorem r_i2b {x : Int32} (k : RB d cd rt rest L (.int x.toInt8.toInt32 :: st) σ Q) : RB d cd rt ((10, n, c, 1 :: ps) :: rest) L (.int x :: st) σ Q := r_of (fun _ _ _ h => ⟨x, st, rfl, h⟩) k
theorem r_ladd {x y : Int64} (k : RB d cd rt rest L (.long (x + y) :: st) σ Q) : RB d cd rt ((11, n, c, 0 :: ps) :: rest) L (.long y :: .long x :: st) σ Q := r_of (fun _ _ _ h => ⟨x, y, st, rfl, h⟩) k
theorem r_lsub {x y : Int64} (k : RB d cd rt rest L (.long (x - y) :: st) σ Q) : RB d cd rt ((11, n, c, 1 :: ps) :: rest) L (.long y :: .long x :: st) σ Q := r_of (fun _ _ _ h => ⟨x, y, st, rfl, h⟩) k
theorem r_lmul {x y : Int64} (k : RB d cd rt rest L (.long (x * y) :: st) σ Q) : RB d cd rt ((11, n, c, 2 :: ps) :: rest) L (.long y :: .long x :: st) σ Q := r_of (fun _ _ _ h => ⟨x, y, st, rfl, h⟩) k
theorem r_lcmp {x y : Int64} (k : RB d cd rt rest L (.int (lg_cmp x y) :: st) σ Q) : RB d cd rt ((12, n, c, ps) :: rest) L (.long y :: .long x :: st) σ Q := r_of (fun _ _ _ h => ⟨x, y, st, rfl, h⟩) k
theorem r_i2l {x : Int32} (k : RB d cd rt rest L (.long x.toInt64 :: st) σ Q) : RB d cd rt ((13, n, c, ps) :: rest) L (.int x :: st) σ Q := r_of (fun _ _ _ h => ⟨x, st, rfl, h⟩) k
theorem r_long {x : Int64} (e : c.toInt64 = x) (k : RB d cd rt rest L (.long x :: st) σ Q) : RB d cd rt ((14, n, c, ps) :: rest) L st σ Q := by
  subst e
  exact r_of (fun _ _ _ h => h) k
theorem r_dup {a : Value} (h : a.category = 1) (k : RB d cd rt rest L (a :: a :: st) σ Q) : RB d cd rt ((15, n, c, ps) :: rest) L (a :: st) σ Q := r_of (fun _ _ _ h2 => ⟨a, st, rfl, h, h2⟩) k
theorem r_dup2 {a b : Value} (h : a.category = 1) (h1 : b.category = 1) (k : RB d cd rt rest L (a :: b :: a :: b :: st) σ Q) : RB d cd rt ((16, n, c, ps) :: rest) L (a :: b :: st) σ Q := r_of (fun _ _ _ h2 => ⟨a, b, st, rfl, h, h1, h2⟩) k
theorem r_pop {a : Value} (h : a.category = 1) (k : RB d cd rt rest L st σ Q) : RB d cd rt ((17, n, c, ps) :: rest) L (a :: st) σ Q := r_of (fun _ _ _ h2 => ⟨a, st, rfl, h, h2⟩) k
theorem r_jmp {b : Nat} {is : List mRI} {L' : mL} {st' : List Value} (h : ∀ r τ K, K b L st σ → mExb (mCall d) rt r τ K is L' st' σ) (k : RJ d cd rt b L st σ Q) : RB d cd rt is L' st' σ Q := by
  intro hz
  obtain ⟨r, τ, ⟨n, h1⟩, h2⟩ := k hz
  exact ⟨r, τ, ⟨n + 1, h _ _ _ h1⟩, h2⟩
theorem r_icmp {k b : Nat} {x y : Int32} (kt : mCmp k x y → RJ d cd rt b L st σ Q) (kf : ¬ mCmp k x y → RB d cd rt rest L st σ Q) : RB d cd rt ((18, n, c, k :: b :: ps) :: rest) L (.int y :: .int x :: st) σ Q := by
  by_cases hc : mCmp k x y
  · exact r_jmp (fun _ _ _ h => ⟨x, y, st, rfl, fun _ => h, fun q => absurd hc q⟩) (kt hc)
  · exact r_of (fun _ _ _ h => ⟨x, y, st, rfl, fun q => absurd q hc, fun _ => h⟩) (kf hc)
theorem r_if {k b : Nat} {x : Int32} (kt : mCmp k x 0 → RJ d cd rt b L st σ Q) (kf : ¬ mCmp k x 0 → RB d cd rt rest L st σ Q) : RB d cd rt ((19, n, c, k :: b :: ps) :: rest) L (.int x :: st) σ Q := by
  by_cases hc : mCmp k x 0
  · exact r_jmp (fun _ _ _ h => ⟨x, st, rfl, fun _ => h, fun q => absurd hc q⟩) (kt hc)
  · exact r_of (fun _ _ _ h => ⟨x, st, rfl, fun q => absurd q hc, fun _ => h⟩) (kf hc)
theorem r_goto {b : Nat} (k : RJ d cd rt b L st σ Q) : RB d cd rt ((20, n, c, b :: ps) :: rest) L st σ Q := r_jmp (fun _ _ _ h => h) k
theorem r_fall {b : Nat} (k : RJ d cd rt b L st σ Q) : RB d cd rt ((21, n, c, b :: ps) :: rest) L st σ Q := r_jmp (fun _ _ _ h => h) k
theorem r_tsw {x : Int32} {b0 : Nat} {ts : List Nat} (kd : (x.toInt < c.toInt ∨ c.toInt + ts.length ≤ x.toInt) → RJ d cd rt b0 L st σ Q) (kt : ∀ q b : Nat, ts[q]? = some b → x.toInt = c.toInt + q → RJ d cd rt b L st σ Q) : RB d cd rt ((22, n, c, b0 :: ts) :: rest) L (.int x :: st) σ Q := by
  by_cases h : x.toInt < c.toInt ∨ c.toInt + (ts.length : Int) ≤ x.toInt
  · exact r_jmp (fun _ _ _ hk => ⟨x, st, rfl, fun _ => hk, fun q b hb hx => by have := (List.getElem?_eq_some_iff.mp hb).1; omega⟩) (kd h)
  · have hq : (x.toInt - c.toInt).toNat < ts.length := by omega
    obtain ⟨b, hb⟩ : ∃ b, ts[(x.toInt - c.toInt).toNat]? = some b := ⟨_, List.getElem?_eq_getElem hq⟩
    refine r_jmp (b := b) (fun _ _ _ hk => ⟨x, st, rfl, fun q => absurd q h, fun q b' hb' hx => ?_⟩) (kt _ b hb (by omega))
    have e : q = (x.toInt - c.toInt).toNat := by omega
    subst e
    rw [hb] at hb'
    cases hb'
    exact hk
theorem r_lsw {x : Int32} {b0 : Nat} (k : RJ d cd rt (mLk c x ps b0) L st σ Q) : RB d cd rt ((23, n, c, b0 :: ps) :: rest) L (.int x :: st) σ Q := r_jmp (fun _ _ _ h => ⟨x, st, rfl, h⟩) k
/-- a reference that stands in a field, in a row -/
theorem r_getr {o ci k q : Nat} (hk : B.2.1[o]? = some (ci, 0)) (hr : B.2.2 o k = some q) (kk : RB d cd rt rest L (.ref q :: st) (mH B v w) Q) : RB d cd rt ((24, n, c, ci :: k :: 4 :: ps) :: rest) L (.ref o :: st) (mH B v w) Q :=
  r_of (fun _ _ _ h => ⟨o, st, rfl, hk, by rw [show mFv (mH B v w) o k 4 = .ref q from congrArg va_rf hr]; exact h⟩) kk
theorem r_aldr {o kd l q : Nat} {i : Int32} (hk : B.2.1[o]? = some (kd, l)) (ha : mAk 4 kd) (hi : vp_in i l) (hr : B.2.2 o i.toNatClampNeg = some q) (kk : RB d cd rt rest L (.ref q :: st) (mH B v w) Q) : RB d cd rt ((26, n, c, 4 :: ps) :: rest) L (.int i :: .ref o :: st) (mH B v w) Q :=
  r_of (fun _ _ _ h => ⟨i, o, kd, l, st, rfl, hk, ha, hi, by rw [show mAv (mH B v w) o i.toNatClampNeg 4 = .ref q from congrArg va_rf hr]; exact h⟩) kk
/-- numbers -/
theorem r_get {env : List (Nat × mF)} {o ci k t : Nat} {f : mF} {x : Int32} (q : Nat) (hn : mNd env) (he : env[q]? = some (o, f)) (hk : B.2.1[o]? = some (ci, 0)) (ht : t < 2) (hx : f k = x) (kk : RB d cd rt rest L (.int x :: st) (mH B (mE v env) w) Q) : RB d cd rt ((24, n, c, ci :: k :: t :: ps) :: rest) L (.ref o :: st) (mH B (mE v env) w) Q := by
  subst hx
  refine r_of (fun _ _ _ h => ⟨o, st, rfl, hk, ?_⟩) kk
  rw [show mFv (mH B (mE v env) w) o k t = .int (f k) by
    rcases (show t = 0 ∨ t = 1 by omega) with rfl | rfl <;> exact congrArg (fun g : mF => Value.int (g k)) (mE_at q hn he)]
  exact h
theorem r_ald {env : List (Nat × mF)} {o kd l t : Nat} {f : mF} {i : Int32} (q k : Nat) (hn : mNd env) (he : env[q]? = some (o, f)) (hk : B.2.1[o]? = some (kd, l)) (ht : t < 2) (ha : mAk t kd) (hi : vp_in i l) (hik : i.toNatClampNeg = k) {x : Int32} (hx : f k = x) (kk : RB d cd rt rest L (.int x :: st) (mH B (mE v env) w) Q) : RB d cd rt ((26, n, c, t :: ps) :: rest) L (.int i :: .ref o :: st) (mH B (mE v env) w) Q := by
  subst hik; subst hx
  refine r_of (fun _ _ _ h => ⟨i, o, kd, l, st, rfl, hk, ha, hi, ?_⟩) kk
  rw [show mAv (mH B (mE v env) w) o i.toNatClampNeg t = .int (f i.toNatClampNeg) by
    rcases (show t = 0 ∨ t = 1 by omega) with rfl | rfl <;> exact congrArg (fun g : mF => Value.int (g i.toNatClampNeg)) (mE_at q hn he)]
  exact h
theorem r_put {env env' : List (Nat × mF)} {o ci k : Nat} {f : mF} {x : Int32} (q : Nat) (hn : mNd env) (he : env[q]? = some (o, f)) (hs : env.set q (o, upd f k x) = env') (hk : B.2.1[o]? = some (ci, 0)) (kk : RB d cd rt rest L st (mH B (mE v env') w) Q) : RB d cd rt ((25, n, c, ci :: k :: 0 :: ps) :: rest) L (.int x :: .ref o :: st) (mH B (mE v env) w) Q := by
  refine r_ofH (σ' := mH B (mE v env') w) rfl rfl (fun _ _ _ h => ⟨o, .int x, st, rfl, hk, x, rfl, ?_⟩) kk
  have e : mPv (mH B (mE v env) w) o k x = mH B (mE v env') w := by
    show (B.1, B.2.1, B.2.2, va_up (mE v env) o (upd (mE v env o) k x), w) = _
    rw [mE_at q hn he, mE_set q hn he, hs]
  rw [e]
  exact h
theorem r_putz {env env' : List (Nat × mF)} {o ci k : Nat} {f : mF} {x : Int32} (q : Nat) (hn : mNd env) (he : env[q]? = some (o, f)) (hs : env.set q (o, upd f k x) = env') (hk : B.2.1[o]? = some (ci, 0)) (hx : x = 0 ∨ x = 1) (kk : RB d cd rt rest L st (mH B (mE v env') w) Q) : RB d cd rt ((25, n, c, ci :: k :: 1 :: ps) :: rest) L (.int x :: .ref o :: st) (mH B (mE v env) w) Q := by
  refine r_ofH (σ' := mH B (mE v env') w) rfl rfl (fun _ _ _ h => ⟨o, .int x, st, rfl, hk, x, rfl, hx, ?_⟩) kk
  have e : mPv (mH B (mE v env) w) o k x = mH B (mE v env') w := by
    show (B.1, B.2.1, B.2.2, va_up (mE v env) o (upd (mE v env o) k x), w) = _
    rw [mE_at q hn he, mE_set q hn he, hs]
  rw [e]
  exact h
theorem r_ast {env env' : List (Nat × mF)} {o kd l t : Nat} {f : mF} {i x y : Int32} (q k : Nat) (hn : mNd env) (he : env[q]? = some (o, f)) (hk : B.2.1[o]? = some (kd, l)) (ht : t < 2) (ha : mAk t kd) (hi : vp_in i l) (hik : i.toNatClampNeg = k) (hy : mNr kd x = y) (hs : env.set q (o, upd f k y) = env') (kk : RB d cd rt rest L st (mH B (mE v env') w) Q) : RB d cd rt ((27, n, c, t :: ps) :: rest) L (.int x :: .int i :: .ref o :: st) (mH B (mE v env) w) Q := by
  subst hik; subst hy
  refine r_ofH (σ' := mH B (mE v env') w) rfl rfl (fun r τ K h => ?_) kk
  have e : mPv (mH B (mE v env) w) o i.toNatClampNeg (mNr kd x) = mH B (mE v env') w := by
    show (B.1, B.2.1, B.2.2, va_up (mE v env) o (upd (mE v env o) i.toNatClampNeg (mNr kd x)), w) = _
    rw [mE_at q hn he, mE_set q hn he, hs]
  rw [← e] at h
  match t, ht, ha with
  | 0, ht, ha => exact ⟨i, o, kd, l, x, st, rfl, hk, ht, ha, hi, h⟩
  | 1, ht, ha => exact ⟨i, o, kd, l, x, st, rfl, hk, ht, ha, hi, h⟩
theorem r_alen {o kd l : Nat} (hk : B.2.1[o]? = some (kd, l)) (h1 : 20 ≤ kd) (h2 : kd ≤ 26) {x : Int32} (hx : nI l = x) (kk : RB d cd rt rest L (.int x :: st) (mH B v w) Q) : RB d cd rt ((28, n, c, ps) :: rest) L (.ref o :: st) (mH B v w) Q := by
  subst hx
  exact r_of (fun _ _ _ h => ⟨o, kd, l, st, rfl, hk, h1, h2, h⟩) kk
theorem r_copy {env env' : List (Nat × mF)} {d0 s1 kd l0 l1 : Nat} {f g : mF} {z dp sp : Int32} (q0 q1 : Nat) (hn : mNd env) (h0 : env[q0]? = some (s1, f)) (h1 : env[q1]? = some (d0, g)) (k0 : B.2.1[s1]? = some (kd, l0)) (k1 : B.2.1[d0]? = some (kd, l1)) (e1 : 20 ≤ kd) (e2 : kd ≤ 22) (b1 : ¬ sp < 0) (b2 : ¬ dp < 0) (b3 : ¬ z < 0) (b4 : sp.toNatClampNeg + z.toNatClampNeg ≤ l0) (b5 : dp.toNatClampNeg + z.toNatClampNeg ≤ l1) (b6 : ∀ i, i < z.toNatClampNeg → fits (mTy kd) (.int (f (sp.toNatClampNeg + i))) = true) (b7 : mSz st ≤ 8) (hs : env.set q1 (d0, va_cpy f g sp.toNatClampNeg dp.toNatClampNeg z.toNatClampNeg) = env') (kk : RB d cd rt rest L st (mH B (mE v env') w) Q) : RB d cd rt ((32, n, c, ps) :: rest) L (.int z :: .int dp :: .ref d0 :: .int sp :: .ref s1 :: st) (mH B (mE v env) w) Q := by
  refine r_ofH (σ' := mH B (mE v env') w) rfl rfl (fun r τ K h => ?_) kk
  have e : mProw (mH B (mE v env) w) d0 (va_cpy (mE v env s1) (mE v env d0) sp.toNatClampNeg dp.toNatClampNeg z.toNatClampNeg) = mH B (mE v env') w := by
    show (B.1, B.2.1, B.2.2, va_up (mE v env) d0 (va_cpy (mE v env s1) (mE v env d0) sp.toNatClampNeg dp.toNatClampNeg z.toNatClampNeg), w) = _
    rw [mE_at q0 hn h0, mE_at q1 hn h1, mE_set q1 hn h1, hs]
  rw [← e] at h
  exact ⟨z, dp, sp, d0, s1, kd, l0, l1, st, rfl, k0, k1, e1, e2, b1, b2, b3, b4, b5, fun i hi => by show fits (mTy kd) (.int (mE v env s1 (sp.toNatClampNeg + i))) = true; rw [mE_at q0 hn h0]; exact b6 i hi, b7, h⟩
theorem r_ret {x : Int32} {ty : FieldType} (hr : rt = some ty) (hx : narrow ty (.int x) = .int x) (h : Q (some x) σ) : RB d cd rt ((30, n, c, ps) :: rest) L [.int x] σ Q := fun _ => ⟨some x, σ, ⟨0, x, rfl, rfl, ⟨ty, hr, hx⟩, rfl⟩, rfl, rfl, h⟩
theorem r_retv (hr : rt = none) (h : Q none σ) : RB d cd rt ((31, n, c, ps) :: rest) L [] σ Q := fun _ => ⟨none, σ, ⟨0, rfl, rfl, hr, rfl⟩, rfl, rfl, h⟩
theorem mOut_self {a : Nat} {L : mL} {st : List Value} : mOut a a L st := ⟨fun x _ => Nat.lt_or_ge x a, fun x _ => Nat.lt_or_ge x a⟩
theorem r_min {x y z : Int32} (hz : (if y < x then y else x) = z) (h : mSz st ≤ 8) (kk : RB d cd rt rest L (.int z :: st) σ Q) : RB d cd rt ((33, n, c, ps) :: rest) L (.int y :: .int x :: st) σ Q := by
  subst hz
  intro hz
  obtain ⟨r, τ, ⟨n, h1⟩, h2, h3, h4⟩ := kk hz
  exact ⟨r, τ, ⟨n, x, y, st, rfl, h, ⟨Nat.le_of_eq h2.symm, by rw [h3]; exact Nat.le_refl _, by rw [h3]; exact hz⟩, h1⟩, h2, h3, h4⟩
/-- a call -/
theorem r_call0 {j na kind ci : Nat} {as : List Value} {stk : List Value} (e : stk = as.reverse ++ st) (hl : as.length = na + (if kind = 1 ∨ kind = 3 then 0 else 1)) (hs : mSz st ≤ 8) (h0 : kind = 0 → ∃ o l, as = .ref o :: l ∧ σ.2.1[o]? = some (ci, 0)) (h2 : kind = 2 ∨ kind = 4 → ∃ o l, as = .ref o :: l) (k : CQ d j as σ (fun r' σ' => RB d cd rt rest L ((r'.map Value.int).toList ++ st) σ' Q)) : RB d cd rt ((29, n, c, j :: na :: kind :: ci :: ps) :: rest) L stk σ Q := by
  subst e
  intro hz
  obtain ⟨r', σ', h3, h4, h5, h6⟩ := k hz
  have hz' : σ'.2.1.length ≤ 1000000 := by rw [h5]; exact hz
  obtain ⟨r, τ, ⟨n, h7⟩, h8, h9, h10⟩ := h6 hz'
  refine ⟨r, τ, ⟨n, as, st, rfl, hl, hs, h0, h2, r', σ', h3, ⟨Nat.le_of_eq h4.symm, by rw [h5]; exact Nat.le_refl _, hz'⟩, ⟨Nat.le_of_eq h8.symm, by rw [h9]; exact Nat.le_refl _, by rw [h9]; exact hz'⟩, ?_, h7⟩, h8.trans h4, h9.trans h5, h10⟩
  rw [h5]
  exact mOut_self
theorem r_begin {j : Nat} {as : List Value} {own : String} {y : MethodName} {bs : ByteArray} {nL kd : Nat} (hm : mt j = (own, y, bs, nL, rt, kd, cd)) (h1 : ∀ v ∈ as, v.category = 1) (h2 : as.length ≤ nL) (k : RJ d cd rt 0 (mArgs as nL) [] σ Q) : CQ (d + 1) j as σ Q := by
  intro hz
  obtain ⟨r, τ, ⟨n, h3⟩, h4, h5, h6⟩ := k hz
  refine ⟨r, τ, Or.inr ⟨h1, by rw [hm]; exact h2, ⟨Nat.le_of_eq h4.symm, by rw [h5]; exact Nat.le_refl _, by rw [h5]; exact hz⟩, n + 1, ?_⟩, h4, h5, h6⟩
  rw [hm]
  exact h3
/-- a call whose objects are among the caller's: by their places -/
theorem r_call {env env' envc envc' : List (Nat × mF)} {j na kind ci : Nat} {as : List Value} {stk : List Value} {rv : Option Int32} (us : List Nat) (hn : mNd env) (e : stk = as.reverse ++ st) (hl : as.length = na + (if kind = 1 ∨ kind = 3 then 0 else 1)) (hs : mSz st ≤ 8) (h0 : kind = 0 → ∃ o l, as = .ref o :: l ∧ B.2.1[o]? = some (ci, 0)) (h2 : kind = 2 ∨ kind = 4 → ∃ o l, as = .ref o :: l)
    (hc : us.map (fun i => env[i]?) = envc.map some) (hc' : us.map (fun i => (env.map Prod.fst)[i]?) = envc'.map (fun x => some x.1)) (hp : mPut2 env (us.zip envc') = env')
    (hk : ∀ Q' : Option Int32 → mMH → Prop, Q' rv (mH B (mE (mE v env) envc') w) → CQ d j as (mH B (mE (mE v env) envc) w) Q') (kk : RB d cd rt rest L ((rv.map Value.int).toList ++ st) (mH B (mE v env') w) Q) : RB d cd rt ((29, n, c, j :: na :: kind :: ci :: ps) :: rest) L stk (mH B (mE v env) w) Q := by
  have e1 : mE (mE v env) envc = mE v env := mE_id _ (fun x hx => by
    have h3 : some x ∈ us.map (fun i => env[i]?) := by rw [hc]; exact List.mem_map_of_mem hx
    obtain ⟨i, -, hi⟩ := List.mem_map.mp h3
    exact mE_at i hn hi)
  have hlen : us.length = envc'.length := by
    have := congrArg List.length hc'
    simpa using this
  have hz2 : (us.zip envc').map Prod.snd = envc' := by
    rw [List.map_snd_zip (by omega)]
  have e2 : mE (mE v env) envc' = mE v env' := by
    rw [← hp, ← mE_put2 hn _ (fun x hx => ?_), hz2]
    obtain ⟨k, hk1⟩ := List.getElem?_of_mem hx
    rw [List.getElem?_zip_eq_some] at hk1
    have h4 := congrArg (fun l => l[k]?) hc'
    simp only [List.getElem?_map, hk1.1, hk1.2, Option.map_some] at h4
    simpa using h4
  have h5 := hk (fun r' σ' => RB d cd rt rest L ((r'.map Value.int).toList ++ st) σ' Q) (by rw [e2]; exact kk)
  rw [e1] at h5
  exact r_call0 e hl hs h0 h2 h5
/-- a call on an object, a static one -/
theorem r_callV {env env' envc envc' : List (Nat × mF)} {j na ci o : Nat} {as : List Value} {stk : List Value} {rv : Option Int32} (us : List Nat) (hn : mNd env) (e : stk = (.ref o :: as).reverse ++ st) (hl : as.length = na) (hs : mSz st ≤ 8) (hk0 : B.2.1[o]? = some (ci, 0)) (hc : us.map (fun i => env[i]?) = envc.map some) (hc' : us.map (fun i => (env.map Prod.fst)[i]?) = envc'.map (fun x => some x.1)) (hp : mPut2 env (us.zip envc') = env')
    (hk : ∀ Q' : Option Int32 → mMH → Prop, Q' rv (mH B (mE (mE v env) envc') w) → CQ d j (.ref o :: as) (mH B (mE (mE v env) envc) w) Q') (kk : RB d cd rt rest L ((rv.map Value.int).toList ++ st) (mH B (mE v env') w) Q) : RB d cd rt ((29, n, c, j :: na :: 0 :: ci :: ps) :: rest) L stk (mH B (mE v env) w) Q :=
  r_call us hn e (by rw [List.length_cons, hl]; rfl) hs (fun _ => ⟨o, as, rfl, hk0⟩) (fun h => by rcases h with h | h <;> cases h) hc hc' hp hk kk
theorem r_callS {env env' envc envc' : List (Nat × mF)} {j na kind ci : Nat} {as : List Value} {stk : List Value} {rv : Option Int32} (us : List Nat) (hkd : kind = 1 ∨ kind = 3) (hn : mNd env) (e : stk = as.reverse ++ st) (hl : as.length = na) (hs : mSz st ≤ 8) (hc : us.map (fun i => env[i]?) = envc.map some) (hc' : us.map (fun i => (env.map Prod.fst)[i]?) = envc'.map (fun x => some x.1)) (hp : mPut2 env (us.zip envc') = env')
    (hk : ∀ Q' : Option Int32 → mMH → Prop, Q' rv (mH B (mE (mE v env) envc') w) → CQ d j as (mH B (mE (mE v env) envc) w) Q') (kk : RB d cd rt rest L ((rv.map Value.int).toList ++ st) (mH B (mE v env') w) Q) : RB d cd rt ((29, n, c, j :: na :: kind :: ci :: ps) :: rest) L stk (mH B (mE v env) w) Q :=
  r_call us hn e (by rw [if_pos hkd]; exact hl) hs (fun h => by rcases hkd with h2 | h2 <;> (rw [h2] at h; cases h)) (fun h => by rcases hkd with h2 | h2 <;> rcases h with h | h <;> (rw [h2] at h; cases h)) hc hc' hp hk kk
theorem r_icmp1 {b : Nat} {x y : Int32} (kt : x = y → RB d cd rt rest L st σ Q) (kf : ¬ x = y → RJ d cd rt b L st σ Q) : RB d cd rt ((18, n, c, 1 :: b :: ps) :: rest) L (.int y :: .int x :: st) σ Q := r_icmp (fun h => kf h) (fun h => kt (Decidable.not_not.mp h))
theorem r_if1 {b : Nat} {x : Int32} (kt : x = 0 → RB d cd rt rest L st σ Q) (kf : ¬ x = 0 → RJ d cd rt b L st σ Q) : RB d cd rt ((19, n, c, 1 :: b :: ps) :: rest) L (.int x :: st) σ Q := r_if (fun h => kf h) (fun h => kt (Decidable.not_not.mp h))
theorem r_tswAt {x : Int32} {b0 b k : Nat} {ts : List Nat} (hb : ts[k]? = some b) (hx : x.toInt = c.toInt + k) (kk : RJ d cd rt b L st σ Q) : RB d cd rt ((22, n, c, b0 :: ts) :: rest) L (.int x :: st) σ Q := by
  have hl := (List.getElem?_eq_some_iff.mp hb).1
  refine r_tsw (fun h => absurd h (by omega)) (fun q b' h1 h2 => ?_)
  have e : q = k := by omega
  subst e
  rw [hb] at h1
  cases h1
  exact kk
theorem r_tswD {x : Int32} {b0 : Nat} {ts : List Nat} (hne : ∀ k, k < ts.length → ¬ x = c + nI k) (kk : RJ d cd rt b0 L st σ Q) : RB d cd rt ((22, n, c, b0 :: ts) :: rest) L (.int x :: st) σ Q := by
  refine r_tsw (fun _ => kk) (fun q b' h1 h2 => absurd ?_ (hne q (List.getElem?_eq_some_iff.mp h1).1))
  have hx1 : x.toInt < 2147483648 := by have := x.toInt_lt; simpa using this
  have hc1 : -2147483648 ≤ c.toInt := by have := c.le_toInt; simpa using this
  have hq : q < 4294967296 := by omega
  apply Int32.toInt_inj.mp
  rw [h2, Int32.toInt_add]
  have e1 : (nI q).toInt = (q : Int).bmod (2 ^ 32) := by
    unfold nI
    rw [Int32.toInt_ofNat']
  rw [e1, Int.add_bmod_bmod]
  have hx2 : -2147483648 ≤ x.toInt := by have := x.le_toInt; simpa using this
  rw [← h2, Int.bmod_eq_of_le] <;> omega
theorem r_lswAt {x : Int32} {b0 b : Nat} (hb : mLk c x ps b0 = b) (kk : RJ d cd rt b L st σ Q) : RB d cd rt ((23, n, c, b0 :: ps) :: rest) L (.int x :: st) σ Q := by
  subst hb
  exact r_lsw kk
end ROWS
theorem i_neI {x l : Int32} {z : Int} (h : ¬ x = l) (hl : z = l.toInt) : ¬ z = x.toInt := fun e => h (Int32.toInt_inj.mp (by rw [← e, hl]))
theorem nz_ok {x : Int32} (h : x = 0 ∨ x = 1) : narrow .boolean (.int x) = .int x := by rcases h with rfl | rfl <;> rfl
theorem vp2 {x : Int32} (h : vp_in x 2) (h0 : ¬ x = 0) : x = 1 := by
  obtain ⟨j, hj, rfl⟩ := vp_in_of h (by decide)
  rcases (show j = 0 ∨ j = 1 by omega) with rfl | rfl
  · exact absurd rfl h0
  · rfl
theorem lt_in (k l : Nat) (h : decide (k < l) = true) (h2 : decide (l < 2147483648) = true) : vp_in (Int32.ofNat k) l := vp_in_nI (of_decide_eq_true h) (of_decide_eq_true h2)
theorem lt_cl (k : Nat) (h : decide (k < 2147483648) = true) : (Int32.ofNat k).toNatClampNeg = k := nI_clamp (of_decide_eq_true h)
def mC1 (e : Option Value) : Bool := match e with
  | some v => decide (v.category = 1)
  | none => true
theorem mNL_e {L : mL} {i : Nat} {e : Option Value} (h : L[i - 1]? = some e) (he : mC1 e = true) : mNL L i = true := by
  unfold mNL
  rw [h]
  cases e with
  | none => rfl
  | some v => exact he
